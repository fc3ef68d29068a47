def BT_signsIn_25 (K : Int32 → Int32 → Int32 → Mem → Option ((Int32 × Mem))) (v1 : Int32) (v3 : Int32) (w0 : Int32) (w1 : Int32) (M : Mem) : Option ((Int32 × Mem)) :=
  K v1 (w0 + w1) (v3 + (-8)) M
def BT_signsIn_5 (K : Int32 → Int32 → Int32 → Mem → Option ((Int32 × Mem))) (v1 : Int32) (v2 : Int32) (v3 : Int32) (M : Mem) : Option ((Int32 × Mem)) :=
  if v3 < 0 then (some (v2, M)) else (if (((Int32.toUInt32 v1 >>> (Int32.toUInt32 v3 &&& Int32.toUInt32 31)).toInt32) &&& 255) = 0 then (BT_signsIn_25 K v1 v3 v2 0 M) else (BT_signsIn_25 K v1 v3 v2 1 M))
def LT_signsIn_5 : Nat → Int32 → Int32 → Int32 → Mem → Option ((Int32 × Mem))
  | 0 => fun _ _ _ _ => none
  | f + 1 => BT_signsIn_5 (LT_signsIn_5 f)
def fT_signsIn (v0 : Nat) (v1 : Int32) (M : Mem) : Option (Int32 × Mem) :=
  (LT_signsIn_5 1000000 v1 0 24 M).bind (fun r2 => some r2)
def BT_append_51 (K : Nat → Int32 → Int32 → Mem → Option ((Mem))) (v0 : Nat) (v1 : Int32) (v2 : Int32) (M : Mem) : Option ((Mem)) :=
  K v0 v1 (v2 + (-8)) M
def BT_append_3 (K : Nat → Int32 → Int32 → Mem → Option ((Mem))) (v0 : Nat) (v1 : Int32) (v2 : Int32) (M : Mem) : Option ((Mem)) :=
  if v2 < 0 then (some M) else (if (((Int32.toUInt32 v1 >>> (Int32.toUInt32 v2 &&& Int32.toUInt32 31)).toInt32) &&& 255) = 0 then (BT_append_51 K v0 v1 v2 M) else (gd (obM M v0 9 2) <| gd (decide (grM M v0 0 ≠ 0)) <| gd (lnI M (grM M v0 0)) <| if (Int32.ofNat (tgM M (grM M v0 0)).2) ≤ (giM M v0 1) then (BT_append_51 K v0 v1 v2 M) else (gd (wrI M (grM M v0 0) (giM M v0 1)) <| BT_append_51 K v0 v1 v2 (siM (siM M (grM M v0 0) (Int32.toNatClampNeg (giM M v0 1)) (((Int32.toUInt32 v1 >>> (Int32.toUInt32 v2 &&& Int32.toUInt32 31)).toInt32) &&& 255)) v0 1 ((giM (siM M (grM M v0 0) (Int32.toNatClampNeg (giM M v0 1)) (((Int32.toUInt32 v1 >>> (Int32.toUInt32 v2 &&& Int32.toUInt32 31)).toInt32) &&& 255)) v0 1) + 1)))))
def LT_append_3 : Nat → Nat → Int32 → Int32 → Mem → Option ((Mem))
  | 0 => fun _ _ _ _ => none
  | f + 1 => BT_append_3 (LT_append_3 f)
def fT_append (v0 : Nat) (v1 : Int32) (M : Mem) : Option (Mem) :=
  (LT_append_3 1000000 v0 v1 24 M).bind (fun r2 => some r2)
def fA_feed (v0 : Nat) (v1 : Int32) (v2 : Int32) (v3 : Int32) (v4 : Int32) (v5 : Int32) (M : Mem) : Option (Int32 × Mem) :=
  gd (obM M v0 10 15) <| gd (decide (grM M v0 0 ≠ 0)) <| gd (obM M (grM M v0 0) 9 2) <| (fT_signsIn (grM M v0 0) v1 M).bind fun q3 => gd (obM q3.2 v0 10 15) <| gd (decide (grM q3.2 v0 0 ≠ 0)) <| gd (obM q3.2 (grM q3.2 v0 0) 9 2) <| (fT_signsIn (grM q3.2 v0 0) v2 q3.2).bind fun q7 => gd (obM q7.2 v0 10 15) <| gd (decide (grM q7.2 v0 0 ≠ 0)) <| gd (obM q7.2 (grM q7.2 v0 0) 9 2) <| (fT_signsIn (grM q7.2 v0 0) v3 q7.2).bind fun q11 => gd (obM q11.2 v0 10 15) <| gd (decide (grM q11.2 v0 0 ≠ 0)) <| gd (obM q11.2 (grM q11.2 v0 0) 9 2) <| (fT_signsIn (grM q11.2 v0 0) v4 q11.2).bind fun q15 => gd (obM q15.2 v0 10 15) <| gd (decide (grM q15.2 v0 0 ≠ 0)) <| gd (obM q15.2 (grM q15.2 v0 0) 9 2) <| (fT_signsIn (grM q15.2 v0 0) v5 q15.2).bind fun q19 => gd (obM q19.2 v0 10 15) <| gd (decide (grM q19.2 v0 0 ≠ 0)) <| gd (obM q19.2 (grM q19.2 v0 0) 9 2) <| if ((giM q19.2 (grM q19.2 v0 0) 1) + ((((q3.1 + q7.1) + q11.1) + q15.1) + q19.1)) ≤ 240 then ((fT_append (grM q19.2 v0 0) v1 q19.2).bind fun q24 => gd (obM q24 v0 10 15) <| gd (decide (grM q24 v0 0 ≠ 0)) <| gd (obM q24 (grM q24 v0 0) 9 2) <| (fT_append (grM q24 v0 0) v2 q24).bind fun q27 => gd (obM q27 v0 10 15) <| gd (decide (grM q27 v0 0 ≠ 0)) <| gd (obM q27 (grM q27 v0 0) 9 2) <| (fT_append (grM q27 v0 0) v3 q27).bind fun q31 => gd (obM q31 v0 10 15) <| gd (decide (grM q31 v0 0 ≠ 0)) <| gd (obM q31 (grM q31 v0 0) 9 2) <| (fT_append (grM q31 v0 0) v4 q31).bind fun q35 => gd (obM q35 v0 10 15) <| gd (decide (grM q35 v0 0 ≠ 0)) <| gd (obM q35 (grM q35 v0 0) 9 2) <| (fT_append (grM q35 v0 0) v5 q35).bind fun q39 => gd (obM q39 v0 10 15) <| gd (decide (grM q39 v0 0 ≠ 0)) <| gd (obM q39 (grM q39 v0 0) 9 2) <| some (giM q39 (grM q39 v0 0) 1, q39)) else (some ((-1), q19.2))
def BA_end_15 (M : Mem) : Option (Int32 × Mem) :=
  some (0, M)
def fA_end (v0 : Nat) (v1 : Int32) (M : Mem) : Option (Int32 × Mem) :=
  if v1 < 0 then (BA_end_15  M) else (gd (obM M v0 10 15) <| gd (decide (grM M v0 0 ≠ 0)) <| gd (obM M (grM M v0 0) 9 2) <| if v1 ≤ (giM M (grM M v0 0) 1) then (some (1, siM M (grM M v0 0) 1 v1)) else (BA_end_15  M))
def fR_rewind (v0 : Nat) (M : Mem) : Option (Mem) :=
  gd (obM M v0 6 3) <| some (siM (siM M v0 1 0) v0 2 ((-1)))
def BR_isWrong_13 (w0 : Int32) (M : Mem) : Option (Int32 × Mem) :=
  gd (decide (w0 = 0 ∨ w0 = 1)) <| some (w0, M)
def fR_isWrong (v0 : Nat) (M : Mem) : Option (Int32 × Mem) :=
  gd (obM M v0 6 3) <| if (giM M v0 2) = ((-1)) then (BR_isWrong_13 0 M) else (BR_isWrong_13 1 M)
def BR_peek_74 (w0 : Int32) (M : Mem) : Option (Int32 × Mem) :=
  some (w0, M)
def BR_peek_44 (v0 : Nat) (M : Mem) : Option (Int32 × Mem) :=
  gd (obM M v0 6 3) <| gd (decide (grM M v0 0 ≠ 0)) <| gd (obM M (grM M v0 0) 9 2) <| if (giM M (grM M v0 0) 1) ≤ (giM M v0 1) then (BR_peek_74 ((-1)) M) else (gd (decide (grM M (grM M v0 0) 0 ≠ 0)) <| gd (rdI M (grM M (grM M v0 0) 0) (giM M v0 1)) <| BR_peek_74 (giM M (grM M (grM M v0 0) 0) (Int32.toNatClampNeg (giM M v0 1))) M)
def BR_peek_0 (K : Nat → Mem → Option ((Mem))) (v0 : Nat) (M : Mem) : Option ((Mem)) :=
  gd (obM M v0 6 3) <| gd (decide (grM M v0 0 ≠ 0)) <| gd (obM M (grM M v0 0) 9 2) <| if (giM M (grM M v0 0) 1) ≤ (giM M v0 1) then (some M) else (gd (decide (grM M (grM M v0 0) 0 ≠ 0)) <| gd (rdI M (grM M (grM M v0 0) 0) (giM M v0 1)) <| if (giM M (grM M (grM M v0 0) 0) (Int32.toNatClampNeg (giM M v0 1))) = 32 then (K v0 (siM M v0 1 ((giM M v0 1) + 1))) else (some M))
def LR_peek_0 : Nat → Nat → Mem → Option ((Mem))
  | 0 => fun _ _ => none
  | f + 1 => BR_peek_0 (LR_peek_0 f)
def fR_peek (v0 : Nat) (M : Mem) : Option (Int32 × Mem) :=
  (LR_peek_0 1000000 v0 M).bind (fun y2 => BR_peek_44 v0 y2)
def BR_pass_24 (M : Mem) : Option (Mem) :=
  some M
def fR_pass (v0 : Nat) (M : Mem) : Option (Mem) :=
  gd (obM M v0 6 3) <| gd (decide (grM M v0 0 ≠ 0)) <| gd (obM M (grM M v0 0) 9 2) <| if (giM M (grM M v0 0) 1) ≤ (giM M v0 1) then (BR_pass_24  M) else (BR_pass_24  (siM M v0 1 ((giM M v0 1) + 1)))
def BJ_coder_14 (w0 : Int32) (M : Mem) : Option (Int32 × Mem) :=
  gd (decide ((Int32.toInt8 w0).toInt32 = w0)) <| some (w0, M)
def fJ_coder (v0 : Nat) (M : Mem) : Option (Int32 × Mem) :=
  if (1 : Int32) = 0 then (BJ_coder_14 1 M) else (gd (stM v0) <| BJ_coder_14 0 M)
def fJ_length (v0 : Nat) (M : Mem) : Option (Int32 × Mem) :=
  gd (stM v0) <| gd (btM (v0 + 1000)) <| (fJ_coder v0 M).bind fun q3 => some ((Int32.ofNat (snM (v0 + 1000))) >>> (q3.1 &&& 31), q3.2)
def BJ_isLatin1_18 (w0 : Int32) (M : Mem) : Option (Int32 × Mem) :=
  gd (decide (w0 = 0 ∨ w0 = 1)) <| some (w0, M)
def BJ_isLatin1_17 (M : Mem) : Option (Int32 × Mem) :=
  BJ_isLatin1_18 0 M
def fJ_isLatin1 (v0 : Nat) (M : Mem) : Option (Int32 × Mem) :=
  if (1 : Int32) = 0 then (BJ_isLatin1_17  M) else (gd (stM v0) <| if (0 : Int32) = 0 then (BJ_isLatin1_18 1 M) else (BJ_isLatin1_17  M))
def BQ_canEncode_16 (w0 : Int32) (M : Mem) : Option (Int32 × Mem) :=
  gd (decide (w0 = 0 ∨ w0 = 1)) <| some (w0, M)
def BQ_canEncode_15 (M : Mem) : Option (Int32 × Mem) :=
  BQ_canEncode_16 0 M
def fQ_canEncode (v0 : Int32) (M : Mem) : Option (Int32 × Mem) :=
  if v0 < 0 then (BQ_canEncode_15  M) else (if 255 < v0 then (BQ_canEncode_15  M) else (BQ_canEncode_16 1 M))
def BK_max_10 (w0 : Int32) (M : Mem) : Option (Int32 × Mem) :=
  some (w0, M)
def fK_max (v0 : Int32) (v1 : Int32) (M : Mem) : Option (Int32 × Mem) :=
  if v0 < v1 then (BK_max_10 v1 M) else (BK_max_10 v0 M)
def BK_min_10 (w0 : Int32) (M : Mem) : Option (Int32 × Mem) :=
  some (w0, M)
def fK_min (v0 : Int32) (v1 : Int32) (M : Mem) : Option (Int32 × Mem) :=
  if v1 < v0 then (BK_min_10 v1 M) else (BK_min_10 v0 M)
def BQ_indexOfChar_7 (K : Nat → Int32 → Int32 → Int32 → Mem → Option ((Int32 × Mem))) (v0 : Nat) (v3 : Int32) (v4 : Int32) (v5 : Int32) (M : Mem) : Option ((Int32 × Mem)) :=
  if v3 ≤ v5 then (some ((-1), M)) else (gd (btM v0) <| gd (inM v5 (snM v0)) <| if (sbM v0 (Int32.toNatClampNeg v5)) = v4 then (some (v5, M)) else (K v0 v3 v4 (v5 + 1) M))
def LQ_indexOfChar_7 : Nat → Nat → Int32 → Int32 → Int32 → Mem → Option ((Int32 × Mem))
  | 0 => fun _ _ _ _ _ => none
  | f + 1 => BQ_indexOfChar_7 (LQ_indexOfChar_7 f)
def fQ_indexOfChar (v0 : Nat) (v1 : Int32) (v2 : Int32) (v3 : Int32) (M : Mem) : Option (Int32 × Mem) :=
  (LQ_indexOfChar_7 1000000 v0 v3 ((Int32.toInt8 v1).toInt32) v2 M).bind (fun r2 => some r2)
def fQ_indexOf (v0 : Nat) (v1 : Int32) (v2 : Int32) (v3 : Int32) (M : Mem) : Option (Int32 × Mem) :=
  (fQ_canEncode v1 M).bind fun q1 => if q1.1 = 0 then (some ((-1), q1.2)) else ((fK_max v2 0 q1.2).bind fun q2 => gd (btM v0) <| (fK_min v3 (Int32.ofNat (snM v0)) q2.2).bind fun q4 => if q2.1 < q4.1 then ((fQ_indexOfChar v0 v1 q2.1 q4.1 q4.2).bind fun q5 => some (q5.1, q5.2)) else (some ((-1), q4.2)))
def BJ_indexOf2_36 (w0 : Int32) (M : Mem) : Option (Int32 × Mem) :=
  some (w0, M)
def fJ_indexOf2 (v0 : Nat) (v1 : Int32) (v2 : Int32) (M : Mem) : Option (Int32 × Mem) :=
  gd (stM v0) <| (fJ_isLatin1 v0 M).bind fun q1 => if q1.1 = 0 then (gd (stM v0) <| (fJ_length v0 q1.2).bind fun q4 => none) else (gd (stM v0) <| (fJ_length v0 q1.2).bind fun q6 => (fQ_indexOf (v0 + 1000) v1 v2 q6.1 q6.2).bind fun q7 => BJ_indexOf2_36 q7.1 q7.2)
def fJ_indexOf (v0 : Nat) (v1 : Int32) (M : Mem) : Option (Int32 × Mem) :=
  gd (stM v0) <| (fJ_indexOf2 v0 v1 0 M).bind fun q1 => some (q1.1, q1.2)
def BR_mark_16 (M : Mem) : Option (Mem) :=
  some M
def fR_mark (v0 : Nat) (M : Mem) : Option (Mem) :=
  gd (obM M v0 6 3) <| if (giM M v0 2) = ((-1)) then (BR_mark_16  (siM M v0 2 (giM M v0 1))) else (BR_mark_16  M)
def BR_isDigit_17 (w0 : Int32) (M : Mem) : Option (Int32 × Mem) :=
  gd (decide (w0 = 0 ∨ w0 = 1)) <| some (w0, M)
def BR_isDigit_16 (M : Mem) : Option (Int32 × Mem) :=
  BR_isDigit_17 0 M
def fR_isDigit (v0 : Int32) (M : Mem) : Option (Int32 × Mem) :=
  if v0 < 48 then (BR_isDigit_16  M) else (if 57 < v0 then (BR_isDigit_16  M) else (BR_isDigit_17 1 M))
def fR_readDigit (v0 : Nat) (M : Mem) : Option (Int32 × Mem) :=
  gd (obM M v0 6 3) <| (fR_peek v0 M).bind fun q1 => (fR_isDigit q1.1 q1.2).bind fun q3 => if q3.1 = 0 then (gd (obM q3.2 v0 6 3) <| (fR_mark v0 q3.2).bind fun q6 => some (0, q6)) else (gd (obM q3.2 v0 6 3) <| (fR_pass v0 q3.2).bind fun q4 => some (q1.1 - 48, q4))
def BR_signHere_37 (w0 : Int32) (M : Mem) : Option (Int32 × Mem) :=
  some (w0, M)
def BR_signHere_36 (M : Mem) : Option (Int32 × Mem) :=
  BR_signHere_37 ((-1)) M
def fR_signHere (v0 : Nat) (M : Mem) : Option (Int32 × Mem) :=
  gd (obM M v0 6 3) <| if (giM M v0 1) < 0 then (BR_signHere_36  M) else (gd (decide (grM M v0 0 ≠ 0)) <| gd (obM M (grM M v0 0) 9 2) <| if (giM M (grM M v0 0) 1) ≤ (giM M v0 1) then (BR_signHere_36  M) else (gd (decide (grM M (grM M v0 0) 0 ≠ 0)) <| gd (rdI M (grM M (grM M v0 0) 0) (giM M v0 1)) <| BR_signHere_37 (giM M (grM M (grM M v0 0) 0) (Int32.toNatClampNeg (giM M v0 1))) M))
def BR_readNumber_67 (v0 : Nat) (v1 : Int32) (M : Mem) : Option (Int32 × Mem) :=
  gd (obM M v0 6 3) <| (fR_mark v0 (siM M v0 1 ((giM M v0 1) - 1))).bind fun q2 => some (v1, q2)
def BR_readNumber_57 (v0 : Nat) (v1 : Int32) (v2 : Int32) (v3 : Int32) (M : Mem) : Option (Int32 × Mem) :=
  if v3 < v1 then (BR_readNumber_67 v0 v1 M) else (if v3 ≤ v2 then (some (v3, M)) else (BR_readNumber_67 v0 v1 M))
def fR_readNumber (v0 : Nat) (v1 : Int32) (v2 : Int32) (M : Mem) : Option (Int32 × Mem) :=
  gd (obM M v0 6 3) <| (fR_readDigit v0 M).bind fun q1 => gd (obM q1.2 v0 6 3) <| (fR_isWrong v0 q1.2).bind fun q3 => if q3.1 = 0 then (gd (obM q3.2 v0 6 3) <| (fR_signHere v0 q3.2).bind fun q5 => (fR_isDigit q5.1 q5.2).bind fun q7 => if q7.1 = 0 then (BR_readNumber_57 v0 v1 v2 q1.1 q7.2) else (gd (obM q7.2 v0 6 3) <| (fR_signHere v0 q7.2).bind fun q8 => gd (obM q8.2 v0 6 3) <| (fR_pass v0 q8.2).bind fun q10 => gd (obM q10 v0 6 3) <| (fR_signHere v0 q10).bind fun q12 => (fR_isDigit q12.1 q12.2).bind fun q14 => if q14.1 = 0 then (BR_readNumber_57 v0 v1 v2 (((q1.1 * 10) + q8.1) - 48) q14.2) else (gd (obM q14.2 v0 6 3) <| (fR_mark v0 q14.2).bind fun q15 => some (v1, q15)))) else (some (v1, q3.2))
def BU_readItems_132 (M : Mem) : Option (Mem) :=
  some M
def BU_readItems_77 (M : Mem) : Option (Mem) :=
  some M
def BU_readItems_45 (K : Nat → Nat → Nat → Nat → Nat → Int32 → Int32 → Int32 → Mem → Option ((Mem) ⊕ ((Mem) ⊕ (Mem)))) (v0 : Nat) (v1 : Nat) (v2 : Nat) (v3 : Nat) (v4 : Nat) (v5 : Int32) (v6 : Int32) (v7 : Int32) (w0 : Int32) (M : Mem) : Option ((Mem) ⊕ ((Mem) ⊕ (Mem))) :=
  if w0 < 0 then (some (.inr (.inl M))) else (gd (lnI M v2) <| if (Int32.ofNat (tgM M v2).2) ≤ w0 then (some (.inr (.inl M))) else (gd (lnI M v3) <| if (Int32.ofNat (tgM M v3).2) ≤ w0 then (some (.inr (.inl M))) else (gd (lnI M v4) <| if (v5 + w0) < (Int32.ofNat (tgM M v4).2) then (if ((v6 >>> (w0 &&& 31)) &&& 1) = 0 then (gd (obM M v0 6 3) <| (fR_pass v0 M).bind fun q4 => gd (rdI q4 v2 w0) <| gd (rdI q4 v3 w0) <| gd (obM q4 v0 6 3) <| (fR_readNumber v0 (giM q4 v2 (Int32.toNatClampNeg w0)) (giM q4 v3 (Int32.toNatClampNeg w0)) q4).bind fun q8 => gd (wrI q8.2 v4 (v5 + w0)) <| K v0 v1 v2 v3 v4 v5 (v6 ||| (1 <<< (w0 &&& 31))) (v7 + 1) (siM q8.2 v4 (Int32.toNatClampNeg (v5 + w0)) q8.1)) else (gd (obM M v0 6 3) <| (fR_mark v0 M).bind fun q11 => some (.inl q11))) else (some (.inr (.inl M))))))
def BU_readItems_6 (K : Nat → Nat → Nat → Nat → Nat → Int32 → Int32 → Int32 → Mem → Option ((Mem) ⊕ ((Mem) ⊕ (Mem)))) (v0 : Nat) (v1 : Nat) (v2 : Nat) (v3 : Nat) (v4 : Nat) (v5 : Int32) (v6 : Int32) (v7 : Int32) (M : Mem) : Option ((Mem) ⊕ ((Mem) ⊕ (Mem))) :=
  gd (stM v1) <| (fJ_length v1 M).bind fun q1 => if q1.1 < v7 then (some (.inr (.inr q1.2))) else (gd (obM q1.2 v0 6 3) <| (fR_isWrong v0 q1.2).bind fun q3 => if q3.1 = 0 then (gd (obM q3.2 v0 6 3) <| (fR_peek v0 q3.2).bind fun q5 => if q5.1 = ((-1)) then (BU_readItems_45 K v0 v1 v2 v3 v4 v5 v6 v7 ((-1)) q5.2) else (gd (stM v1) <| (fJ_indexOf v1 ((Int32.toUInt32 q5.1 % 65536).toInt32) q5.2).bind fun q7 => BU_readItems_45 K v0 v1 v2 v3 v4 v5 v6 v7 q7.1 q7.2)) else (some (.inr (.inr q3.2))))
def LU_readItems_6 : Nat → Nat → Nat → Nat → Nat → Nat → Int32 → Int32 → Int32 → Mem → Option ((Mem) ⊕ ((Mem) ⊕ (Mem)))
  | 0 => fun _ _ _ _ _ _ _ _ _ => none
  | f + 1 => BU_readItems_6 (LU_readItems_6 f)
def fU_readItems (v0 : Nat) (v1 : Nat) (v2 : Nat) (v3 : Nat) (v4 : Nat) (v5 : Int32) (M : Mem) : Option (Mem) :=
  (LU_readItems_6 1000000 v0 v1 v2 v3 v4 v5 0 0 M).bind (Sum.elim (fun r2 => some r2) (Sum.elim (fun y3 => BU_readItems_77  y3) (fun y4 => BU_readItems_132  y4)))
def BR_expect_19 (M : Mem) : Option (Mem) :=
  some M
def fR_expect (v0 : Nat) (v1 : Int32) (M : Mem) : Option (Mem) :=
  gd (obM M v0 6 3) <| (fR_peek v0 M).bind fun q1 => if q1.1 = v1 then (gd (obM q1.2 v0 6 3) <| (fR_pass v0 q1.2).bind fun q5 => BR_expect_19  q5) else (gd (obM q1.2 v0 6 3) <| (fR_mark v0 q1.2).bind fun q3 => BR_expect_19  q3)
def BU_sizesFit_67 (w0 : Int32) (M : Mem) : Option (Int32 × Mem) :=
  gd (decide (w0 = 0 ∨ w0 = 1)) <| some (w0, M)
def BU_sizesFit_66 (M : Mem) : Option (Int32 × Mem) :=
  BU_sizesFit_67 0 M
def BU_sizesFit_2 (K : Nat → Int32 → Mem → Option ((Int32 × Mem) ⊕ (Mem))) (v0 : Nat) (v1 : Int32) (M : Mem) : Option ((Int32 × Mem) ⊕ (Mem)) :=
  gd (obM M v0 7 3) <| if (giM M v0 2) ≤ v1 then (some (.inr M)) else (gd (decide (grM M v0 1 ≠ 0)) <| gd (rdI M (grM M v0 1) v1) <| gd (rdI M (grM M v0 1) (v1 - 1)) <| if (giM M (grM M v0 1) (Int32.toNatClampNeg (v1 - 1))) < (giM M (grM M v0 1) (Int32.toNatClampNeg v1)) then (K v0 (v1 + 1) M) else (some (.inl (0, M))))
def LU_sizesFit_2 : Nat → Nat → Int32 → Mem → Option ((Int32 × Mem) ⊕ (Mem))
  | 0 => fun _ _ _ => none
  | f + 1 => BU_sizesFit_2 (LU_sizesFit_2 f)
def fU_sizesFit (v0 : Nat) (M : Mem) : Option (Int32 × Mem) :=
  (LU_sizesFit_2 1000000 v0 1 M).bind (Sum.elim (fun r2 => some r2) (fun y3 => gd (obM y3 v0 7 3) <| if (giM y3 v0 2) ≤ 0 then (BU_sizesFit_66  y3) else (gd (decide (grM y3 v0 1 ≠ 0)) <| gd (rdI y3 (grM y3 v0 1) ((giM y3 v0 2) - 1)) <| gd (decide (grM y3 v0 0 ≠ 0)) <| gd (rdI y3 (grM y3 v0 0) 2) <| if (giM y3 (grM y3 v0 0) (Int32.toNatClampNeg 2)) < (giM y3 (grM y3 v0 1) (Int32.toNatClampNeg ((giM y3 v0 2) - 1))) then (BU_sizesFit_66  y3) else (BU_sizesFit_67 1 y3))))
def BU_readFrom_204 (v1 : Nat) (M : Mem) : Option (Int32 × Mem) :=
  gd (obM M v1 6 3) <| some (giM M v1 2, M)
def BU_readFrom_186 (v0 : Nat) (v1 : Nat) (M : Mem) : Option (Int32 × Mem) :=
  gd (obM M v1 6 3) <| (fR_isWrong v1 M).bind fun q1 => if q1.1 = 0 then (gd (obM q1.2 v0 7 3) <| (fU_sizesFit v0 q1.2).bind fun q3 => if q3.1 = 0 then (gd (obM q3.2 v1 6 3) <| (fR_mark v1 q3.2).bind fun q5 => BU_readFrom_204 v1 q5) else (BU_readFrom_204 v1 q3.2)) else (BU_readFrom_204 v1 q1.2)
def BU_readFrom_156 (K : Nat → Nat → Int32 → Int32 → Mem → Option ((Mem) ⊕ (Mem))) (v0 : Nat) (v1 : Nat) (v2 : Int32) (v3 : Int32) (M : Mem) : Option ((Mem) ⊕ (Mem)) :=
  gd (obM M v1 6 3) <| (fR_isWrong v1 M).bind fun q1 => if q1.1 = 0 then (gd (obM q1.2 v1 6 3) <| (fR_peek v1 q1.2).bind fun q3 => if q3.1 = ((-1)) then (some (.inl q3.2)) else (gd (obM q3.2 v1 6 3) <| (fR_expect v1 59 q3.2).bind fun q5 => K v0 v1 v2 (v3 + 1) q5)) else (some (.inr q1.2))
def BU_readFrom_152 (K : Nat → Nat → Int32 → Int32 → Mem → Option ((Mem) ⊕ (Mem))) (v0 : Nat) (v1 : Nat) (v2 : Int32) (v3 : Int32) (M : Mem) : Option ((Mem) ⊕ (Mem)) :=
  gd (obM M v1 6 3) <| (fR_mark v1 M).bind fun q1 => BU_readFrom_156 K v0 v1 v2 v3 q1
def BU_readFrom_87 (K : Nat → Nat → Int32 → Int32 → Mem → Option ((Mem) ⊕ (Mem))) (v0 : Nat) (v1 : Nat) (v2 : Int32) (v3 : Int32) (v4 : Int32) (M : Mem) : Option ((Mem) ⊕ (Mem)) :=
  if v4 = 99 then (gd (obM M v0 7 3) <| if 6 ≤ (giM M v0 2) then (BU_readFrom_152 K v0 v1 v2 v3 M) else (gd (obM M v1 6 3) <| (fR_pass v1 M).bind fun q2 => gd (obM q2 v0 7 3) <| gd (decide (grM q2 v0 1 ≠ 0)) <| gd (wrI q2 (grM q2 v0 1) (giM q2 v0 2)) <| (fU_readItems v1 6002 5004 5005 (grM q2 v0 1) ((giM (siM (siM q2 (grM q2 v0 1) (Int32.toNatClampNeg (giM q2 v0 2)) 1) v0 2 ((giM (siM q2 (grM q2 v0 1) (Int32.toNatClampNeg (giM q2 v0 2)) 1) v0 2) + 1)) v0 2) - 1) (siM (siM q2 (grM q2 v0 1) (Int32.toNatClampNeg (giM q2 v0 2)) 1) v0 2 ((giM (siM q2 (grM q2 v0 1) (Int32.toNatClampNeg (giM q2 v0 2)) 1) v0 2) + 1))).bind fun q7 => BU_readFrom_156 K v0 v1 v2 v3 q7)) else (BU_readFrom_152 K v0 v1 v2 v3 M)
def BU_readFrom_30 (K : Nat → Nat → Int32 → Int32 → Mem → Option ((Mem) ⊕ (Mem))) (v0 : Nat) (v1 : Nat) (v2 : Int32) (v3 : Int32) (M : Mem) : Option ((Mem) ⊕ (Mem)) :=
  if 240 ≤ v3 then (some (.inr M)) else (gd (obM M v1 6 3) <| (fR_isWrong v1 M).bind fun q1 => if q1.1 = 0 then (gd (obM q1.2 v1 6 3) <| (fR_peek v1 q1.2).bind fun q3 => if q3.1 = 115 then (if v2 = 0 then (gd (obM q3.2 v1 6 3) <| (fR_pass v1 q3.2).bind fun q5 => gd (obM q5 v0 7 3) <| gd (decide (grM q5 v0 0 ≠ 0)) <| (fU_readItems v1 6001 5001 5002 (grM q5 v0 0) 0 q5).bind fun q9 => BU_readFrom_156 K v0 v1 1 v3 q9) else (BU_readFrom_87 K v0 v1 v2 v3 q3.1 q3.2)) else (BU_readFrom_87 K v0 v1 v2 v3 q3.1 q3.2)) else (some (.inr q1.2)))
def LU_readFrom_30 : Nat → Nat → Nat → Int32 → Int32 → Mem → Option ((Mem) ⊕ (Mem))
  | 0 => fun _ _ _ _ _ => none
  | f + 1 => BU_readFrom_30 (LU_readFrom_30 f)
def fU_readFrom (v0 : Nat) (v1 : Nat) (M : Mem) : Option (Int32 × Mem) :=
  gd (obM M v0 7 3) <| gd (decide (grM M v0 0 ≠ 0)) <| gd (lnI M (grM M v0 0)) <| gd (cpM M 5003 0 (grM M v0 0) 0 (Int32.ofNat (tgM M (grM M v0 0)).2)) <| gd (obM M v1 6 3) <| (fR_rewind v1 (siM (saM M (grM M v0 0) (va_cpy (giM M 5003) (giM M (grM M v0 0)) (Int32.toNatClampNeg 0) (Int32.toNatClampNeg 0) (Int32.toNatClampNeg (Int32.ofNat (tgM M (grM M v0 0)).2)))) v0 2 0)).bind fun q5 => (LU_readFrom_30 1000000 v0 v1 0 0 q5).bind (Sum.elim (fun y8 => BU_readFrom_186 v0 v1 y8) (fun y9 => BU_readFrom_186 v0 v1 y9))
def BS_readStep_192 (w0 : Int32) (M : Mem) : Option (Int32 × Mem) :=
  some (w0, M)
def BS_readStep_168 (v3 : Int32) (v5 : Int32) (M : Mem) : Option (Int32 × Mem) :=
  if v5 = 5 then (some (v3 + 1, M)) else (if v5 = 6 then (BS_readStep_192 (v3 - 1) M) else (BS_readStep_192 v3 M))
def BS_readStep_167 (v3 : Int32) (v5 : Int32) (w0 : Nat) (w1 : Int32) (w2 : Int32) (M : Mem) : Option (Int32 × Mem) :=
  gd (wrI M w0 w1) <| BS_readStep_168 v3 v5 (siM M w0 (Int32.toNatClampNeg w1) w2)
def BS_readStep_134 (v0 : Nat) (v1 : Nat) (v2 : Int32) (v3 : Int32) (v5 : Int32) (M : Mem) : Option (Int32 × Mem) :=
  gd (obM M v1 6 3) <| (fR_expect v1 58 M).bind fun q1 => gd (obM q1 v0 8 4) <| gd (decide (grM q1 v0 2 ≠ 0)) <| if v5 = 0 then (gd (obM q1 v1 6 3) <| (fR_readNumber v1 1 40 q1).bind fun q7 => BS_readStep_167 v3 v5 (grM q1 v0 2) v2 q7.1 q7.2) else (gd (obM q1 v1 6 3) <| (fR_readNumber v1 0 23 q1).bind fun q5 => BS_readStep_167 v3 v5 (grM q1 v0 2) v2 q5.1 q5.2)
def BS_readStep_115 (v0 : Nat) (v1 : Nat) (v2 : Int32) (v3 : Int32) (v5 : Int32) (w0 : Nat) (w1 : Int32) (w2 : Int32) (M : Mem) : Option (Int32 × Mem) :=
  gd (wrI M w0 w1) <| gd (obM M v0 8 4) <| gd (decide (grM M v0 2 ≠ 0)) <| gd (wrI M (grM M v0 2) v2) <| if v5 = 0 then (BS_readStep_134 v0 v1 v2 v3 v5 (siM (siM M w0 (Int32.toNatClampNeg w1) w2) (grM M v0 2) (Int32.toNatClampNeg v2) ((-1)))) else (if v5 = 1 then (BS_readStep_134 v0 v1 v2 v3 v5 (siM (siM M w0 (Int32.toNatClampNeg w1) w2) (grM M v0 2) (Int32.toNatClampNeg v2) ((-1)))) else (BS_readStep_168 v3 v5 (siM (siM M w0 (Int32.toNatClampNeg w1) w2) (grM M v0 2) (Int32.toNatClampNeg v2) ((-1)))))
def BS_readStep_78 (v1 : Nat) (v3 : Int32) (M : Mem) : Option (Int32 × Mem) :=
  gd (obM M v1 6 3) <| (fR_mark v1 M).bind fun q1 => some (v3, q1)
def BS_readStep_61 (v0 : Nat) (v1 : Nat) (v2 : Int32) (v3 : Int32) (v5 : Int32) (v6 : Int32) (w0 : Int32) (M : Mem) : Option (Int32 × Mem) :=
  if v5 < 0 then (BS_readStep_78 v1 v3 M) else (if v6 = 0 then (if w0 = 0 then (gd (obM M v1 6 3) <| (fR_pass v1 M).bind fun q1 => gd (obM q1 v0 8 4) <| gd (decide (grM q1 v0 0 ≠ 0)) <| gd (wrI q1 (grM q1 v0 0) v2) <| gd (decide (grM q1 v0 1 ≠ 0)) <| if 5 ≤ v5 then (BS_readStep_115 v0 v1 v2 v3 v5 (grM q1 v0 1) v2 ((-1)) (siM q1 (grM q1 v0 0) (Int32.toNatClampNeg v2) v5)) else (gd (obM q1 v1 6 3) <| (fR_readDigit v1 (siM q1 (grM q1 v0 0) (Int32.toNatClampNeg v2) v5)).bind fun q7 => BS_readStep_115 v0 v1 v2 v3 v5 (grM q1 v0 1) v2 q7.1 q7.2)) else (BS_readStep_78 v1 v3 M)) else (BS_readStep_78 v1 v3 M))
def BS_readStep_60 (v0 : Nat) (v1 : Nat) (v2 : Int32) (v3 : Int32) (v5 : Int32) (v6 : Int32) (M : Mem) : Option (Int32 × Mem) :=
  BS_readStep_61 v0 v1 v2 v3 v5 v6 0 M
def BS_readStep_43 (v0 : Nat) (v1 : Nat) (v2 : Int32) (v3 : Int32) (v5 : Int32) (w0 : Int32) (M : Mem) : Option (Int32 × Mem) :=
  if v5 = 6 then (if 0 < v3 then (BS_readStep_60 v0 v1 v2 v3 v5 w0 M) else (BS_readStep_61 v0 v1 v2 v3 v5 w0 1 M)) else (BS_readStep_60 v0 v1 v2 v3 v5 w0 M)
def BS_readStep_42 (v0 : Nat) (v1 : Nat) (v2 : Int32) (v3 : Int32) (v5 : Int32) (M : Mem) : Option (Int32 × Mem) :=
  BS_readStep_43 v0 v1 v2 v3 v5 0 M
def BS_readStep_24 (v0 : Nat) (v1 : Nat) (v2 : Int32) (v3 : Int32) (w0 : Int32) (M : Mem) : Option (Int32 × Mem) :=
  if w0 = 5 then (if v3 < 6 then (BS_readStep_42 v0 v1 v2 v3 w0 M) else (BS_readStep_43 v0 v1 v2 v3 w0 1 M)) else (BS_readStep_42 v0 v1 v2 v3 w0 M)
def fS_readStep (v0 : Nat) (v1 : Nat) (v2 : Int32) (v3 : Int32) (M : Mem) : Option (Int32 × Mem) :=
  gd (obM M v1 6 3) <| (fR_peek v1 M).bind fun q1 => if q1.1 = ((-1)) then (BS_readStep_24 v0 v1 v2 v3 ((-1)) q1.2) else (gd (stM 6003) <| (fJ_indexOf 6003 ((Int32.toUInt32 q1.1 % 65536).toInt32) q1.2).bind fun q3 => BS_readStep_24 v0 v1 v2 v3 q3.1 q3.2)
def BS_readFrom_102 (v1 : Nat) (M : Mem) : Option (Int32 × Mem) :=
  gd (obM M v1 6 3) <| some (giM M v1 2, M)
def BS_readFrom_98 (v1 : Nat) (M : Mem) : Option (Int32 × Mem) :=
  gd (obM M v1 6 3) <| (fR_mark v1 M).bind fun q1 => BS_readFrom_102 v1 q1
def BS_readFrom_90 (v1 : Nat) (v2 : Int32) (v3 : Int32) (M : Mem) : Option (Int32 × Mem) :=
  if v3 = 0 then (BS_readFrom_98 v1 M) else (if v2 ≤ 0 then (BS_readFrom_102 v1 M) else (BS_readFrom_98 v1 M))
def BS_readFrom_84 (K : Nat → Nat → Int32 → Int32 → Int32 → Mem → Option ((Int32 × Int32 × Mem))) (v0 : Nat) (v1 : Nat) (v2 : Int32) (v3 : Int32) (v4 : Int32) (M : Mem) : Option ((Int32 × Int32 × Mem)) :=
  K v0 v1 v2 v3 (v4 + 1) M
def BS_readFrom_64 (K : Nat → Nat → Int32 → Int32 → Int32 → Mem → Option ((Int32 × Int32 × Mem))) (v0 : Nat) (v1 : Nat) (v2 : Int32) (v4 : Int32) (w0 : Int32) (M : Mem) : Option ((Int32 × Int32 × Mem)) :=
  if w0 = 0 then (gd (obM M v0 8 4) <| if 24 ≤ (giM M v0 3) then (BS_readFrom_84 K v0 v1 v2 w0 v4 M) else (gd (obM M v1 6 3) <| (fR_expect v1 59 M).bind fun q2 => BS_readFrom_84 K v0 v1 v2 w0 v4 q2)) else (BS_readFrom_84 K v0 v1 v2 w0 v4 M)
def BS_readFrom_16 (K : Nat → Nat → Int32 → Int32 → Int32 → Mem → Option ((Int32 × Int32 × Mem))) (v0 : Nat) (v1 : Nat) (v2 : Int32) (v3 : Int32) (v4 : Int32) (M : Mem) : Option ((Int32 × Int32 × Mem)) :=
  if 24 ≤ v4 then (some (v2, v3, M)) else (if v3 = 0 then (gd (obM M v1 6 3) <| (fR_isWrong v1 M).bind fun q1 => if q1.1 = 0 then (gd (obM q1.2 v0 8 4) <| (fS_readStep v0 v1 v4 v2 q1.2).bind fun q3 => gd (obM q3.2 v0 8 4) <| gd (obM q3.2 v1 6 3) <| (fR_peek v1 (siM q3.2 v0 3 (v4 + 1))).bind fun q6 => if q6.1 = ((-1)) then (BS_readFrom_64 K v0 v1 q3.1 v4 1 q6.2) else (BS_readFrom_64 K v0 v1 q3.1 v4 0 q6.2)) else (some (v2, v3, q1.2))) else (some (v2, v3, M)))
def LS_readFrom_16 : Nat → Nat → Nat → Int32 → Int32 → Int32 → Mem → Option ((Int32 × Int32 × Mem))
  | 0 => fun _ _ _ _ _ _ => none
  | f + 1 => BS_readFrom_16 (LS_readFrom_16 f)
def fS_readFrom (v0 : Nat) (v1 : Nat) (M : Mem) : Option (Int32 × Mem) :=
  gd (obM M v0 8 4) <| gd (obM M v1 6 3) <| (fR_rewind v1 (siM M v0 3 0)).bind fun q2 => (LS_readFrom_16 1000000 v0 v1 0 0 0 q2).bind (fun y5 => BS_readFrom_90 v1 y5.1 y5.2.1 y5.2.2)
def BA_fault_37 (w0 : Int32) (M : Mem) : Option (Int32 × Mem) :=
  some (w0, M)
def fA_fault (v0 : Nat) (v1 : Int32) (M : Mem) : Option (Int32 × Mem) :=
  if v1 = 0 then (gd (obM M v0 10 15) <| gd (decide (grM M v0 3 ≠ 0)) <| gd (decide (grM M v0 1 ≠ 0)) <| gd (obM M (grM M v0 3) 7 3) <| (fU_readFrom (grM M v0 3) (grM M v0 1) M).bind fun q9 => some (q9.1, q9.2)) else (if v1 = 1 then (gd (obM M v0 10 15) <| gd (decide (grM M v0 6 ≠ 0)) <| gd (decide (grM M v0 1 ≠ 0)) <| gd (obM M (grM M v0 6) 8 4) <| (fS_readFrom (grM M v0 6) (grM M v0 1) M).bind fun q4 => BA_fault_37 q4.1 q4.2) else (BA_fault_37 ((-2)) M))
def fU_copyFrom (v0 : Nat) (v1 : Nat) (M : Mem) : Option (Mem) :=
  gd (obM M v1 7 3) <| gd (decide (grM M v1 0 ≠ 0)) <| gd (obM M v0 7 3) <| gd (decide (grM M v0 0 ≠ 0)) <| gd (lnI M (grM M v0 0)) <| gd (cpM M (grM M v1 0) 0 (grM M v0 0) 0 (Int32.ofNat (tgM M (grM M v0 0)).2)) <| gd (decide (grM M v1 1 ≠ 0)) <| gd (decide (grM M v0 1 ≠ 0)) <| gd (lnI M (grM M v0 1)) <| gd (cpM M (grM M v1 1) 0 (grM M v0 1) 0 (Int32.ofNat (tgM M (grM M v0 1)).2)) <| some (siM (saM (saM M (grM M v0 0) (va_cpy (giM M (grM M v1 0)) (giM M (grM M v0 0)) (Int32.toNatClampNeg 0) (Int32.toNatClampNeg 0) (Int32.toNatClampNeg (Int32.ofNat (tgM M (grM M v0 0)).2)))) (grM M v0 1) (va_cpy (giM (saM M (grM M v0 0) (va_cpy (giM M (grM M v1 0)) (giM M (grM M v0 0)) (Int32.toNatClampNeg 0) (Int32.toNatClampNeg 0) (Int32.toNatClampNeg (Int32.ofNat (tgM M (grM M v0 0)).2)))) (grM M v1 1)) (giM (saM M (grM M v0 0) (va_cpy (giM M (grM M v1 0)) (giM M (grM M v0 0)) (Int32.toNatClampNeg 0) (Int32.toNatClampNeg 0) (Int32.toNatClampNeg (Int32.ofNat (tgM M (grM M v0 0)).2)))) (grM M v0 1)) (Int32.toNatClampNeg 0) (Int32.toNatClampNeg 0) (Int32.toNatClampNeg (Int32.ofNat (tgM M (grM M v0 1)).2)))) v0 2 (giM (saM (saM M (grM M v0 0) (va_cpy (giM M (grM M v1 0)) (giM M (grM M v0 0)) (Int32.toNatClampNeg 0) (Int32.toNatClampNeg 0) (Int32.toNatClampNeg (Int32.ofNat (tgM M (grM M v0 0)).2)))) (grM M v0 1) (va_cpy (giM (saM M (grM M v0 0) (va_cpy (giM M (grM M v1 0)) (giM M (grM M v0 0)) (Int32.toNatClampNeg 0) (Int32.toNatClampNeg 0) (Int32.toNatClampNeg (Int32.ofNat (tgM M (grM M v0 0)).2)))) (grM M v1 1)) (giM (saM M (grM M v0 0) (va_cpy (giM M (grM M v1 0)) (giM M (grM M v0 0)) (Int32.toNatClampNeg 0) (Int32.toNatClampNeg 0) (Int32.toNatClampNeg (Int32.ofNat (tgM M (grM M v0 0)).2)))) (grM M v0 1)) (Int32.toNatClampNeg 0) (Int32.toNatClampNeg 0) (Int32.toNatClampNeg (Int32.ofNat (tgM M (grM M v0 1)).2)))) v1 2))
def BY_fill_5 (K : Nat → Int32 → Int32 → Int32 → Mem → Option ((Mem))) (v0 : Nat) (v1 : Int32) (v2 : Int32) (v3 : Int32) (M : Mem) : Option ((Mem)) :=
  if v3 ≤ v2 then (some M) else (gd (wrI M v0 v2) <| K v0 v1 (v2 + 1) v3 (siM M v0 (Int32.toNatClampNeg v2) v1))
def LY_fill_5 : Nat → Nat → Int32 → Int32 → Int32 → Mem → Option ((Mem))
  | 0 => fun _ _ _ _ _ => none
  | f + 1 => BY_fill_5 (LY_fill_5 f)
def fY_fill (v0 : Nat) (v1 : Int32) (M : Mem) : Option (Mem) :=
  gd (lnI M v0) <| (LY_fill_5 1000000 v0 v1 0 (Int32.ofNat (tgM M v0).2) M).bind (fun r3 => some r3)
def fC_clearAll (v0 : Nat) (M : Mem) : Option (Mem) :=
  gd (obM M v0 0 4) <| gd (decide (grM M v0 0 ≠ 0)) <| (fY_fill (grM M v0 0) ((-1)) M).bind fun q3 => gd (obM q3 v0 0 4) <| gd (decide (grM q3 v0 1 ≠ 0)) <| (fY_fill (grM q3 v0 1) 0 q3).bind fun q6 => gd (obM q6 v0 0 4) <| gd (decide (grM q6 v0 2 ≠ 0)) <| (fY_fill (grM q6 v0 2) ((-1)) q6).bind fun q9 => gd (obM q9 v0 0 4) <| gd (decide (grM q9 v0 3 ≠ 0)) <| (fY_fill (grM q9 v0 3) ((-1)) q9).bind fun q12 => some q12
def fH_makeNew (v0 : Nat) (M : Mem) : Option (Mem) :=
  gd (obM M v0 1 9) <| gd (decide (grM M v0 1 ≠ 0)) <| (fY_fill (grM M v0 1) ((-1)) M).bind fun q3 => gd (obM q3 v0 1 9) <| gd (decide (grM q3 v0 2 ≠ 0)) <| (fY_fill (grM q3 v0 2) ((-1)) q3).bind fun q6 => gd (obM q6 v0 1 9) <| gd (decide (grM q6 v0 3 ≠ 0)) <| (fY_fill (grM q6 v0 3) 0 q6).bind fun q9 => gd (obM q9 v0 1 9) <| gd (decide (grM q9 v0 4 ≠ 0)) <| gd (obM q9 (grM q9 v0 4) 0 4) <| (fC_clearAll (grM q9 v0 4) q9).bind fun q12 => gd (obM q12 v0 1 9) <| gd (decide (grM q12 v0 5 ≠ 0)) <| gd (obM q12 (grM q12 v0 5) 0 4) <| (fC_clearAll (grM q12 v0 5) q12).bind fun q16 => gd (obM q16 v0 1 9) <| gd (decide (grM q16 v0 6 ≠ 0)) <| (fY_fill (grM q16 v0 6) 1 q16).bind fun q20 => gd (obM q20 v0 1 9) <| gd (decide (grM q20 v0 7 ≠ 0)) <| (fY_fill (grM q20 v0 7) 0 q20).bind fun q23 => gd (obM q23 v0 1 9) <| gd (decide (grM q23 v0 8 ≠ 0)) <| gd (obM q23 (grM q23 v0 8) 2 2) <| some (siM q23 (grM q23 v0 8) 1 0)
def fP_forget (v0 : Nat) (M : Mem) : Option (Mem) :=
  gd (obM M v0 4 3) <| some (siM M v0 2 0)
def fA_beginArena (v0 : Nat) (M : Mem) : Option (Int32 × Mem) :=
  gd (obM M v0 10 15) <| gd (decide (grM M v0 3 ≠ 0)) <| gd (decide (grM M v0 1 ≠ 0)) <| gd (obM M (grM M v0 3) 7 3) <| (fU_readFrom (grM M v0 3) (grM M v0 1) M).bind fun q4 => if q4.1 = ((-1)) then (gd (obM q4.2 v0 10 15) <| gd (decide (grM q4.2 v0 2 ≠ 0)) <| gd (decide (grM q4.2 v0 3 ≠ 0)) <| gd (obM q4.2 (grM q4.2 v0 2) 7 3) <| (fU_copyFrom (grM q4.2 v0 2) (grM q4.2 v0 3) q4.2).bind fun q9 => gd (obM q9 v0 10 15) <| gd (decide (grM q9 v0 7 ≠ 0)) <| gd (obM q9 (grM q9 v0 7) 1 9) <| (fH_makeNew (grM q9 v0 7) q9).bind fun q13 => gd (obM q13 v0 10 15) <| gd (decide (grM q13 v0 8 ≠ 0)) <| gd (obM q13 (grM q13 v0 8) 4 3) <| (fP_forget (grM q13 v0 8) q13).bind fun q17 => gd (obM q17 v0 10 15) <| gd (decide (grM q17 v0 0 ≠ 0)) <| gd (obM q17 (grM q17 v0 0) 9 2) <| gd (decide (grM q17 v0 2 ≠ 0)) <| gd (obM q17 (grM q17 v0 2) 7 3) <| some (giM (siM (siM q17 v0 10 0) (grM q17 v0 0) 1 0) (grM q17 v0 2) 2, siM (siM q17 v0 10 0) (grM q17 v0 0) 1 0)) else (some ((-1), q4.2))
def fS_copyFrom (v0 : Nat) (v1 : Nat) (M : Mem) : Option (Mem) :=
  gd (obM M v1 8 4) <| gd (decide (grM M v1 0 ≠ 0)) <| gd (obM M v0 8 4) <| gd (decide (grM M v0 0 ≠ 0)) <| gd (cpM M (grM M v1 0) 0 (grM M v0 0) 0 24) <| gd (decide (grM M v1 1 ≠ 0)) <| gd (decide (grM M v0 1 ≠ 0)) <| gd (cpM M (grM M v1 1) 0 (grM M v0 1) 0 24) <| gd (decide (grM M v1 2 ≠ 0)) <| gd (decide (grM M v0 2 ≠ 0)) <| gd (cpM M (grM M v1 2) 0 (grM M v0 2) 0 24) <| some (siM (saM (saM (saM M (grM M v0 0) (va_cpy (giM M (grM M v1 0)) (giM M (grM M v0 0)) (Int32.toNatClampNeg 0) (Int32.toNatClampNeg 0) (Int32.toNatClampNeg 24))) (grM M v0 1) (va_cpy (giM (saM M (grM M v0 0) (va_cpy (giM M (grM M v1 0)) (giM M (grM M v0 0)) (Int32.toNatClampNeg 0) (Int32.toNatClampNeg 0) (Int32.toNatClampNeg 24))) (grM M v1 1)) (giM (saM M (grM M v0 0) (va_cpy (giM M (grM M v1 0)) (giM M (grM M v0 0)) (Int32.toNatClampNeg 0) (Int32.toNatClampNeg 0) (Int32.toNatClampNeg 24))) (grM M v0 1)) (Int32.toNatClampNeg 0) (Int32.toNatClampNeg 0) (Int32.toNatClampNeg 24))) (grM M v0 2) (va_cpy (giM (saM (saM M (grM M v0 0) (va_cpy (giM M (grM M v1 0)) (giM M (grM M v0 0)) (Int32.toNatClampNeg 0) (Int32.toNatClampNeg 0) (Int32.toNatClampNeg 24))) (grM M v0 1) (va_cpy (giM (saM M (grM M v0 0) (va_cpy (giM M (grM M v1 0)) (giM M (grM M v0 0)) (Int32.toNatClampNeg 0) (Int32.toNatClampNeg 0) (Int32.toNatClampNeg 24))) (grM M v1 1)) (giM (saM M (grM M v0 0) (va_cpy (giM M (grM M v1 0)) (giM M (grM M v0 0)) (Int32.toNatClampNeg 0) (Int32.toNatClampNeg 0) (Int32.toNatClampNeg 24))) (grM M v0 1)) (Int32.toNatClampNeg 0) (Int32.toNatClampNeg 0) (Int32.toNatClampNeg 24))) (grM M v1 2)) (giM (saM (saM M (grM M v0 0) (va_cpy (giM M (grM M v1 0)) (giM M (grM M v0 0)) (Int32.toNatClampNeg 0) (Int32.toNatClampNeg 0) (Int32.toNatClampNeg 24))) (grM M v0 1) (va_cpy (giM (saM M (grM M v0 0) (va_cpy (giM M (grM M v1 0)) (giM M (grM M v0 0)) (Int32.toNatClampNeg 0) (Int32.toNatClampNeg 0) (Int32.toNatClampNeg 24))) (grM M v1 1)) (giM (saM M (grM M v0 0) (va_cpy (giM M (grM M v1 0)) (giM M (grM M v0 0)) (Int32.toNatClampNeg 0) (Int32.toNatClampNeg 0) (Int32.toNatClampNeg 24))) (grM M v0 1)) (Int32.toNatClampNeg 0) (Int32.toNatClampNeg 0) (Int32.toNatClampNeg 24))) (grM M v0 2)) (Int32.toNatClampNeg 0) (Int32.toNatClampNeg 0) (Int32.toNatClampNeg 24))) v0 3 (giM (saM (saM (saM M (grM M v0 0) (va_cpy (giM M (grM M v1 0)) (giM M (grM M v0 0)) (Int32.toNatClampNeg 0) (Int32.toNatClampNeg 0) (Int32.toNatClampNeg 24))) (grM M v0 1) (va_cpy (giM (saM M (grM M v0 0) (va_cpy (giM M (grM M v1 0)) (giM M (grM M v0 0)) (Int32.toNatClampNeg 0) (Int32.toNatClampNeg 0) (Int32.toNatClampNeg 24))) (grM M v1 1)) (giM (saM M (grM M v0 0) (va_cpy (giM M (grM M v1 0)) (giM M (grM M v0 0)) (Int32.toNatClampNeg 0) (Int32.toNatClampNeg 0) (Int32.toNatClampNeg 24))) (grM M v0 1)) (Int32.toNatClampNeg 0) (Int32.toNatClampNeg 0) (Int32.toNatClampNeg 24))) (grM M v0 2) (va_cpy (giM (saM (saM M (grM M v0 0) (va_cpy (giM M (grM M v1 0)) (giM M (grM M v0 0)) (Int32.toNatClampNeg 0) (Int32.toNatClampNeg 0) (Int32.toNatClampNeg 24))) (grM M v0 1) (va_cpy (giM (saM M (grM M v0 0) (va_cpy (giM M (grM M v1 0)) (giM M (grM M v0 0)) (Int32.toNatClampNeg 0) (Int32.toNatClampNeg 0) (Int32.toNatClampNeg 24))) (grM M v1 1)) (giM (saM M (grM M v0 0) (va_cpy (giM M (grM M v1 0)) (giM M (grM M v0 0)) (Int32.toNatClampNeg 0) (Int32.toNatClampNeg 0) (Int32.toNatClampNeg 24))) (grM M v0 1)) (Int32.toNatClampNeg 0) (Int32.toNatClampNeg 0) (Int32.toNatClampNeg 24))) (grM M v1 2)) (giM (saM (saM M (grM M v0 0) (va_cpy (giM M (grM M v1 0)) (giM M (grM M v0 0)) (Int32.toNatClampNeg 0) (Int32.toNatClampNeg 0) (Int32.toNatClampNeg 24))) (grM M v0 1) (va_cpy (giM (saM M (grM M v0 0) (va_cpy (giM M (grM M v1 0)) (giM M (grM M v0 0)) (Int32.toNatClampNeg 0) (Int32.toNatClampNeg 0) (Int32.toNatClampNeg 24))) (grM M v1 1)) (giM (saM M (grM M v0 0) (va_cpy (giM M (grM M v1 0)) (giM M (grM M v0 0)) (Int32.toNatClampNeg 0) (Int32.toNatClampNeg 0) (Int32.toNatClampNeg 24))) (grM M v0 1)) (Int32.toNatClampNeg 0) (Int32.toNatClampNeg 0) (Int32.toNatClampNeg 24))) (grM M v0 2)) (Int32.toNatClampNeg 0) (Int32.toNatClampNeg 0) (Int32.toNatClampNeg 24))) v1 3))
def BA_addScript_23 (M : Mem) : Option (Int32 × Mem) :=
  some ((-1), M)
def fA_addScript (v0 : Nat) (M : Mem) : Option (Int32 × Mem) :=
  gd (obM M v0 10 15) <| if 4 ≤ (giM M v0 5) then (BA_addScript_23  M) else (gd (decide (grM M v0 6 ≠ 0)) <| gd (decide (grM M v0 1 ≠ 0)) <| gd (obM M (grM M v0 6) 8 4) <| (fS_readFrom (grM M v0 6) (grM M v0 1) M).bind fun q4 => if q4.1 = ((-1)) then (gd (obM q4.2 v0 10 15) <| gd (decide (grM q4.2 v0 4 ≠ 0)) <| gd (wrT 104 q4.2 (grM q4.2 v0 4) (giM q4.2 v0 5)) <| gd (decide (grM q4.2 (grM q4.2 v0 4) (Int32.toNatClampNeg (giM q4.2 v0 5)) ≠ 0)) <| gd (decide (grM q4.2 v0 6 ≠ 0)) <| gd (obM q4.2 (grM q4.2 (grM q4.2 v0 4) (Int32.toNatClampNeg (giM q4.2 v0 5))) 8 4) <| (fS_copyFrom (grM q4.2 (grM q4.2 v0 4) (Int32.toNatClampNeg (giM q4.2 v0 5))) (grM q4.2 v0 6) q4.2).bind fun q11 => gd (obM q11 v0 10 15) <| gd (decide (grM q11 v0 0 ≠ 0)) <| gd (obM q11 (grM q11 v0 0) 9 2) <| some ((giM (siM (siM q11 v0 5 ((giM q11 v0 5) + 1)) (grM q11 v0 0) 1 0) v0 5) - 1, siM (siM q11 v0 5 ((giM q11 v0 5) + 1)) (grM q11 v0 0) 1 0)) else (BA_addScript_23  q4.2))
def BA_text_22 (w0 : Int32) (M : Mem) : Option (Int32 × Mem) :=
  some (w0, M)
def fA_text (v0 : Nat) (v1 : Int32) (M : Mem) : Option (Int32 × Mem) :=
  if v1 = 0 then (gd (obM M v0 10 15) <| (fA_beginArena v0 M).bind fun q3 => some (q3.1, q3.2)) else (if v1 = 1 then (gd (obM M v0 10 15) <| (fA_addScript v0 M).bind fun q1 => BA_text_22 q1.1 q1.2) else (BA_text_22 ((-1)) M))
def BU_areTold_12 (w0 : Int32) (M : Mem) : Option (Int32 × Mem) :=
  gd (decide (w0 = 0 ∨ w0 = 1)) <| some (w0, M)
def fU_areTold (v0 : Nat) (M : Mem) : Option (Int32 × Mem) :=
  gd (obM M v0 7 3) <| if (giM M v0 2) ≤ 0 then (BU_areTold_12 0 M) else (BU_areTold_12 1 M)
def BA_rule_39 (w0 : Int32) (M : Mem) : Option (Int32 × Mem) :=
  some (w0, M)
def BA_rule_38 (M : Mem) : Option (Int32 × Mem) :=
  BA_rule_39 ((-1)) M
def fA_rule (v0 : Nat) (v1 : Int32) (M : Mem) : Option (Int32 × Mem) :=
  gd (obM M v0 10 15) <| gd (decide (grM M v0 2 ≠ 0)) <| gd (obM M (grM M v0 2) 7 3) <| (fU_areTold (grM M v0 2) M).bind fun q3 => if q3.1 = 0 then (BA_rule_38  q3.2) else (if v1 < 0 then (BA_rule_38  q3.2) else (gd (obM q3.2 v0 10 15) <| gd (decide (grM q3.2 v0 2 ≠ 0)) <| gd (obM q3.2 (grM q3.2 v0 2) 7 3) <| gd (decide (grM q3.2 (grM q3.2 v0 2) 0 ≠ 0)) <| gd (lnI q3.2 (grM q3.2 (grM q3.2 v0 2) 0)) <| if (Int32.ofNat (tgM q3.2 (grM q3.2 (grM q3.2 v0 2) 0)).2) ≤ v1 then (BA_rule_38  q3.2) else (gd (rdI q3.2 (grM q3.2 (grM q3.2 v0 2) 0) v1) <| BA_rule_39 (giM q3.2 (grM q3.2 (grM q3.2 v0 2) 0) (Int32.toNatClampNeg v1)) q3.2)))
def BU_isKind_17 (w0 : Int32) (M : Mem) : Option (Int32 × Mem) :=
  gd (decide (w0 = 0 ∨ w0 = 1)) <| some (w0, M)
def BU_isKind_16 (M : Mem) : Option (Int32 × Mem) :=
  BU_isKind_17 0 M
def fU_isKind (v0 : Nat) (v1 : Int32) (M : Mem) : Option (Int32 × Mem) :=
  if v1 < 0 then (BU_isKind_16  M) else (gd (obM M v0 7 3) <| if (giM M v0 2) ≤ v1 then (BU_isKind_16  M) else (BU_isKind_17 1 M))
def BA_size_24 (w0 : Int32) (M : Mem) : Option (Int32 × Mem) :=
  some (w0, M)
def fA_size (v0 : Nat) (v1 : Int32) (M : Mem) : Option (Int32 × Mem) :=
  gd (obM M v0 10 15) <| gd (decide (grM M v0 2 ≠ 0)) <| gd (obM M (grM M v0 2) 7 3) <| (fU_isKind (grM M v0 2) v1 M).bind fun q3 => if q3.1 = 0 then (BA_size_24 ((-1)) q3.2) else (gd (obM q3.2 v0 10 15) <| gd (decide (grM q3.2 v0 2 ≠ 0)) <| gd (obM q3.2 (grM q3.2 v0 2) 7 3) <| gd (decide (grM q3.2 (grM q3.2 v0 2) 1 ≠ 0)) <| gd (rdI q3.2 (grM q3.2 (grM q3.2 v0 2) 1) v1) <| BA_size_24 (giM q3.2 (grM q3.2 (grM q3.2 v0 2) 1) (Int32.toNatClampNeg v1)) q3.2)
def BH_isPage_22 (w0 : Int32) (M : Mem) : Option (Int32 × Mem) :=
  gd (decide (w0 = 0 ∨ w0 = 1)) <| some (w0, M)
def BH_isPage_21 (M : Mem) : Option (Int32 × Mem) :=
  BH_isPage_22 0 M
def fH_isPage (v0 : Nat) (v1 : Int32) (M : Mem) : Option (Int32 × Mem) :=
  if v1 < 0 then (BH_isPage_21  M) else (gd (obM M v0 1 9) <| gd (decide (grM M v0 0 ≠ 0)) <| gd (obM M (grM M v0 0) 7 3) <| gd (decide (grM M (grM M v0 0) 0 ≠ 0)) <| gd (rdI M (grM M (grM M v0 0) 0) 1) <| if (giM M (grM M (grM M v0 0) 0) (Int32.toNatClampNeg 1)) ≤ v1 then (BH_isPage_21  M) else (BH_isPage_22 1 M))
def fH_listOf (v0 : Nat) (v1 : Int32) (v2 : Int32) (M : Mem) : Option (Int32 × Mem) :=
  some ((v1 * 3) + v2, M)
def BC_thingAt_63 (v3 : Int32) (M : Mem) : Option (Int32 × Mem) :=
  some (v3, M)
def BC_thingAt_39 (K : Nat → Int32 → Int32 → Int32 → Mem → Option ((Int32 × Mem))) (v0 : Nat) (v2 : Int32) (v3 : Int32) (v4 : Int32) (M : Mem) : Option ((Int32 × Mem)) :=
  if v2 ≤ v4 then (some (v3, M)) else (if v3 = ((-1)) then (some (v3, M)) else (gd (obM M v0 0 4) <| gd (decide (grM M v0 2 ≠ 0)) <| gd (rdI M (grM M v0 2) v3) <| K v0 v2 (giM M (grM M v0 2) (Int32.toNatClampNeg v3)) (v4 + 1) M))
def LC_thingAt_39 : Nat → Nat → Int32 → Int32 → Int32 → Mem → Option ((Int32 × Mem))
  | 0 => fun _ _ _ _ _ => none
  | f + 1 => BC_thingAt_39 (LC_thingAt_39 f)
def BC_thingAt_27 (M : Mem) : Option (Int32 × Mem) :=
  some ((-1), M)
def fC_thingAt (v0 : Nat) (v1 : Int32) (v2 : Int32) (M : Mem) : Option (Int32 × Mem) :=
  if v1 < 0 then (BC_thingAt_27  M) else (gd (obM M v0 0 4) <| gd (decide (grM M v0 0 ≠ 0)) <| gd (lnI M (grM M v0 0)) <| if (Int32.ofNat (tgM M (grM M v0 0)).2) ≤ v1 then (BC_thingAt_27  M) else (if v2 < 0 then (BC_thingAt_27  M) else (gd (decide (grM M v0 1 ≠ 0)) <| gd (rdI M (grM M v0 1) v1) <| if v2 < (giM M (grM M v0 1) (Int32.toNatClampNeg v1)) then (gd (rdI M (grM M v0 0) v1) <| (LC_thingAt_39 1000000 v0 v2 (giM M (grM M v0 0) (Int32.toNatClampNeg v1)) 0 M).bind (fun y8 => BC_thingAt_63 y8.1 y8.2)) else (BC_thingAt_27  M))))
def BH_ownNumber_13 (w0 : Int32) (M : Mem) : Option (Int32 × Mem) :=
  some (w0, M)
def fH_ownNumber (v0 : Nat) (v1 : Int32) (M : Mem) : Option (Int32 × Mem) :=
  if v1 = ((-1)) then (BH_ownNumber_13 ((-1)) M) else (BH_ownNumber_13 (v1 - v1 / 40 * 40) M)
def BA_list_20 (M : Mem) : Option (Int32 × Mem) :=
  some ((-1), M)
def fA_list (v0 : Nat) (v1 : Int32) (v2 : Int32) (v3 : Int32) (M : Mem) : Option (Int32 × Mem) :=
  gd (obM M v0 10 15) <| gd (decide (grM M v0 7 ≠ 0)) <| gd (obM M (grM M v0 7) 1 9) <| (fH_isPage (grM M v0 7) v1 M).bind fun q3 => if q3.1 = 0 then (BA_list_20  q3.2) else (if v2 < 0 then (BA_list_20  q3.2) else (if v2 ≤ 2 then (gd (obM q3.2 v0 10 15) <| gd (decide (grM q3.2 v0 7 ≠ 0)) <| gd (obM q3.2 (grM q3.2 v0 7) 1 9) <| gd (decide (grM q3.2 (grM q3.2 v0 7) 5 ≠ 0)) <| (fH_listOf (grM q3.2 v0 7) v1 v2 q3.2).bind fun q9 => gd (obM q9.2 (grM q3.2 (grM q3.2 v0 7) 5) 0 4) <| (fC_thingAt (grM q3.2 (grM q3.2 v0 7) 5) q9.1 v3 q9.2).bind fun q10 => gd (obM q10.2 (grM q3.2 v0 7) 1 9) <| (fH_ownNumber (grM q3.2 v0 7) q10.1 q10.2).bind fun q12 => some (q12.1, q12.2)) else (BA_list_20  q3.2)))
def BH_isThread_22 (w0 : Int32) (M : Mem) : Option (Int32 × Mem) :=
  gd (decide (w0 = 0 ∨ w0 = 1)) <| some (w0, M)
def BH_isThread_21 (M : Mem) : Option (Int32 × Mem) :=
  BH_isThread_22 0 M
def fH_isThread (v0 : Nat) (v1 : Int32) (M : Mem) : Option (Int32 × Mem) :=
  if v1 < 0 then (BH_isThread_21  M) else (gd (obM M v0 1 9) <| gd (decide (grM M v0 0 ≠ 0)) <| gd (obM M (grM M v0 0) 7 3) <| gd (decide (grM M (grM M v0 0) 0 ≠ 0)) <| gd (rdI M (grM M (grM M v0 0) 0) 0) <| if (giM M (grM M (grM M v0 0) 0) (Int32.toNatClampNeg 0)) ≤ v1 then (BH_isThread_21  M) else (BH_isThread_22 1 M))
def BH_isLiving_23 (w0 : Int32) (M : Mem) : Option (Int32 × Mem) :=
  gd (decide (w0 = 0 ∨ w0 = 1)) <| some (w0, M)
def BH_isLiving_22 (M : Mem) : Option (Int32 × Mem) :=
  BH_isLiving_23 0 M
def fH_isLiving (v0 : Nat) (v1 : Int32) (M : Mem) : Option (Int32 × Mem) :=
  gd (obM M v0 1 9) <| (fH_isThread v0 v1 M).bind fun q1 => if q1.1 = 0 then (BH_isLiving_22  q1.2) else (gd (obM q1.2 v0 1 9) <| gd (decide (grM q1.2 v0 6 ≠ 0)) <| gd (rdI q1.2 (grM q1.2 v0 6) v1) <| if (giM q1.2 (grM q1.2 v0 6) (Int32.toNatClampNeg v1)) = 1 then (BH_isLiving_23 1 q1.2) else (BH_isLiving_22  q1.2))
def BH_pagesOf_33 (K : Nat → Int32 → Int32 → Int32 → Mem → Option ((Int32 × Mem))) (v0 : Nat) (v1 : Int32) (v3 : Int32) (w0 : Int32) (w1 : Int32) (M : Mem) : Option ((Int32 × Mem)) :=
  K v0 v1 (w0 + w1) (v3 + 1) M
def BH_pagesOf_4 (K : Nat → Int32 → Int32 → Int32 → Mem → Option ((Int32 × Mem))) (v0 : Nat) (v1 : Int32) (v2 : Int32) (v3 : Int32) (M : Mem) : Option ((Int32 × Mem)) :=
  gd (obM M v0 1 9) <| gd (decide (grM M v0 0 ≠ 0)) <| gd (obM M (grM M v0 0) 7 3) <| gd (decide (grM M (grM M v0 0) 0 ≠ 0)) <| gd (rdI M (grM M (grM M v0 0) 0) 1) <| if (giM M (grM M (grM M v0 0) 0) (Int32.toNatClampNeg 1)) ≤ v3 then (some (v2, M)) else (gd (decide (grM M v0 2 ≠ 0)) <| gd (rdI M (grM M v0 2) v3) <| if (giM M (grM M v0 2) (Int32.toNatClampNeg v3)) = v1 then (BH_pagesOf_33 K v0 v1 v3 v2 1 M) else (BH_pagesOf_33 K v0 v1 v3 v2 0 M))
def LH_pagesOf_4 : Nat → Nat → Int32 → Int32 → Int32 → Mem → Option ((Int32 × Mem))
  | 0 => fun _ _ _ _ _ => none
  | f + 1 => BH_pagesOf_4 (LH_pagesOf_4 f)
def fH_pagesOf (v0 : Nat) (v1 : Int32) (M : Mem) : Option (Int32 × Mem) :=
  (LH_pagesOf_4 1000000 v0 v1 0 0 M).bind (fun r2 => some r2)
def fH_outboxOf (v0 : Nat) (v1 : Int32) (v2 : Int32) (M : Mem) : Option (Int32 × Mem) :=
  some ((48 + (v1 * 16)) + v2, M)
def BH_outOf_4 (K : Nat → Int32 → Int32 → Int32 → Mem → Option ((Int32 × Mem))) (v0 : Nat) (v1 : Int32) (v2 : Int32) (v3 : Int32) (M : Mem) : Option ((Int32 × Mem)) :=
  gd (obM M v0 1 9) <| gd (decide (grM M v0 0 ≠ 0)) <| gd (obM M (grM M v0 0) 7 3) <| gd (decide (grM M (grM M v0 0) 0 ≠ 0)) <| gd (rdI M (grM M (grM M v0 0) 0) 1) <| if (giM M (grM M (grM M v0 0) 0) (Int32.toNatClampNeg 1)) ≤ v3 then (some (v2, M)) else (gd (decide (grM M v0 5 ≠ 0)) <| gd (obM M (grM M v0 5) 0 4) <| gd (decide (grM M (grM M v0 5) 1 ≠ 0)) <| (fH_outboxOf v0 v1 v3 M).bind fun q9 => gd (rdI q9.2 (grM M (grM M v0 5) 1) q9.1) <| K v0 v1 (v2 + (giM q9.2 (grM M (grM M v0 5) 1) (Int32.toNatClampNeg q9.1))) (v3 + 1) q9.2)
def LH_outOf_4 : Nat → Nat → Int32 → Int32 → Int32 → Mem → Option ((Int32 × Mem))
  | 0 => fun _ _ _ _ _ => none
  | f + 1 => BH_outOf_4 (LH_outOf_4 f)
def fH_outOf (v0 : Nat) (v1 : Int32) (M : Mem) : Option (Int32 × Mem) :=
  (LH_outOf_4 1000000 v0 v1 0 0 M).bind (fun r2 => some r2)
def BA_thread_60 (w0 : Int32) (M : Mem) : Option (Int32 × Mem) :=
  some (w0, M)
def fA_thread (v0 : Nat) (v1 : Int32) (v2 : Int32) (M : Mem) : Option (Int32 × Mem) :=
  gd (obM M v0 10 15) <| gd (decide (grM M v0 7 ≠ 0)) <| gd (obM M (grM M v0 7) 1 9) <| (fH_isThread (grM M v0 7) v1 M).bind fun q3 => if q3.1 = 0 then (some ((-1), q3.2)) else (if v2 = 0 then (gd (obM q3.2 v0 10 15) <| gd (decide (grM q3.2 v0 7 ≠ 0)) <| gd (obM q3.2 (grM q3.2 v0 7) 1 9) <| (fH_isLiving (grM q3.2 v0 7) v1 q3.2).bind fun q7 => if q7.1 = 0 then (BA_thread_60 0 q7.2) else (BA_thread_60 1 q7.2)) else if v2 = 1 then (gd (obM q3.2 v0 10 15) <| gd (decide (grM q3.2 v0 7 ≠ 0)) <| gd (obM q3.2 (grM q3.2 v0 7) 1 9) <| (fH_pagesOf (grM q3.2 v0 7) v1 q3.2).bind fun q11 => some (q11.1, q11.2)) else if v2 = 2 then (gd (obM q3.2 v0 10 15) <| gd (decide (grM q3.2 v0 7 ≠ 0)) <| gd (obM q3.2 (grM q3.2 v0 7) 1 9) <| gd (decide (grM q3.2 (grM q3.2 v0 7) 7 ≠ 0)) <| gd (rdI q3.2 (grM q3.2 (grM q3.2 v0 7) 7) v1) <| some (giM q3.2 (grM q3.2 (grM q3.2 v0 7) 7) (Int32.toNatClampNeg v1), q3.2)) else if v2 = 3 then (gd (obM q3.2 v0 10 15) <| gd (decide (grM q3.2 v0 7 ≠ 0)) <| gd (obM q3.2 (grM q3.2 v0 7) 1 9) <| (fH_outOf (grM q3.2 v0 7) v1 q3.2).bind fun q20 => some (q20.1, q20.2)) else (some ((-1), q3.2)))
def fH_queueOf (v0 : Nat) (v1 : Int32) (v2 : Int32) (M : Mem) : Option (Int32 × Mem) :=
  some ((v1 * 6) + v2, M)
def BA_queue_22 (M : Mem) : Option (Int32 × Mem) :=
  some ((-1), M)
def fA_queue (v0 : Nat) (v1 : Int32) (v2 : Int32) (v3 : Int32) (M : Mem) : Option (Int32 × Mem) :=
  gd (obM M v0 10 15) <| gd (decide (grM M v0 7 ≠ 0)) <| gd (obM M (grM M v0 7) 1 9) <| (fH_isThread (grM M v0 7) v1 M).bind fun q3 => if q3.1 = 0 then (BA_queue_22  q3.2) else (gd (obM q3.2 v0 10 15) <| gd (decide (grM q3.2 v0 2 ≠ 0)) <| gd (obM q3.2 (grM q3.2 v0 2) 7 3) <| (fU_isKind (grM q3.2 v0 2) v2 q3.2).bind fun q7 => if q7.1 = 0 then (BA_queue_22  q7.2) else (gd (obM q7.2 v0 10 15) <| gd (decide (grM q7.2 v0 7 ≠ 0)) <| gd (obM q7.2 (grM q7.2 v0 7) 1 9) <| gd (decide (grM q7.2 (grM q7.2 v0 7) 4 ≠ 0)) <| (fH_queueOf (grM q7.2 v0 7) v1 v2 q7.2).bind fun q13 => gd (obM q13.2 (grM q7.2 (grM q7.2 v0 7) 4) 0 4) <| (fC_thingAt (grM q7.2 (grM q7.2 v0 7) 4) q13.1 v3 q13.2).bind fun q14 => some (q14.1, q14.2)))
def BA_outbox_22 (M : Mem) : Option (Int32 × Mem) :=
  some ((-1), M)
def fA_outbox (v0 : Nat) (v1 : Int32) (v2 : Int32) (v3 : Int32) (M : Mem) : Option (Int32 × Mem) :=
  gd (obM M v0 10 15) <| gd (decide (grM M v0 7 ≠ 0)) <| gd (obM M (grM M v0 7) 1 9) <| (fH_isThread (grM M v0 7) v1 M).bind fun q3 => if q3.1 = 0 then (BA_outbox_22  q3.2) else (gd (obM q3.2 v0 10 15) <| gd (decide (grM q3.2 v0 7 ≠ 0)) <| gd (obM q3.2 (grM q3.2 v0 7) 1 9) <| (fH_isPage (grM q3.2 v0 7) v2 q3.2).bind fun q7 => if q7.1 = 0 then (BA_outbox_22  q7.2) else (gd (obM q7.2 v0 10 15) <| gd (decide (grM q7.2 v0 7 ≠ 0)) <| gd (obM q7.2 (grM q7.2 v0 7) 1 9) <| gd (decide (grM q7.2 (grM q7.2 v0 7) 5 ≠ 0)) <| (fH_outboxOf (grM q7.2 v0 7) v1 v2 q7.2).bind fun q13 => gd (obM q13.2 (grM q7.2 (grM q7.2 v0 7) 5) 0 4) <| (fC_thingAt (grM q7.2 (grM q7.2 v0 7) 5) q13.1 v3 q13.2).bind fun q14 => gd (obM q14.2 (grM q7.2 v0 7) 1 9) <| (fH_ownNumber (grM q7.2 v0 7) q14.1 q14.2).bind fun q16 => some (q16.1, q16.2)))
def BH_isBlock_40 (w0 : Int32) (M : Mem) : Option (Int32 × Mem) :=
  gd (decide (w0 = 0 ∨ w0 = 1)) <| some (w0, M)
def BH_isBlock_39 (M : Mem) : Option (Int32 × Mem) :=
  BH_isBlock_40 0 M
def fH_isBlock (v0 : Nat) (v1 : Int32) (M : Mem) : Option (Int32 × Mem) :=
  if v1 < 0 then (BH_isBlock_39  M) else (gd (obM M v0 1 9) <| gd (decide (grM M v0 0 ≠ 0)) <| gd (obM M (grM M v0 0) 7 3) <| gd (decide (grM M (grM M v0 0) 0 ≠ 0)) <| gd (rdI M (grM M (grM M v0 0) 0) 1) <| if (giM M (grM M (grM M v0 0) 0) (Int32.toNatClampNeg 1)) ≤ (v1 / 100) then (BH_isBlock_39  M) else (gd (decide (grM M v0 3 ≠ 0)) <| gd (rdI M (grM M v0 3) (v1 / 100)) <| if (giM M (grM M v0 3) (Int32.toNatClampNeg (v1 / 100))) ≤ (v1 - v1 / 100 * 100) then (BH_isBlock_39  M) else (BH_isBlock_40 1 M)))
def fH_thingOf (v0 : Nat) (v1 : Int32) (M : Mem) : Option (Int32 × Mem) :=
  some (((v1 / 100) * 40) + (v1 - v1 / 100 * 100), M)
def BH_isHeld_30 (w0 : Int32) (M : Mem) : Option (Int32 × Mem) :=
  gd (decide (w0 = 0 ∨ w0 = 1)) <| some (w0, M)
def BH_isHeld_29 (M : Mem) : Option (Int32 × Mem) :=
  BH_isHeld_30 0 M
def fH_isHeld (v0 : Nat) (v1 : Int32) (M : Mem) : Option (Int32 × Mem) :=
  gd (obM M v0 1 9) <| (fH_isBlock v0 v1 M).bind fun q1 => if q1.1 = 0 then (BH_isHeld_29  q1.2) else (gd (obM q1.2 v0 1 9) <| gd (decide (grM q1.2 v0 5 ≠ 0)) <| gd (obM q1.2 (grM q1.2 v0 5) 0 4) <| gd (decide (grM q1.2 (grM q1.2 v0 5) 3 ≠ 0)) <| (fH_thingOf v0 v1 q1.2).bind fun q7 => gd (rdI q7.2 (grM q1.2 (grM q1.2 v0 5) 3) q7.1) <| if (giM q7.2 (grM q1.2 (grM q1.2 v0 5) 3) (Int32.toNatClampNeg q7.1)) = ((-1)) then (BH_isHeld_30 1 q7.2) else (BH_isHeld_29  q7.2))
def BA_held_29 (w0 : Int32) (M : Mem) : Option (Int32 × Mem) :=
  some (w0, M)
def fA_held (v0 : Nat) (v1 : Int32) (M : Mem) : Option (Int32 × Mem) :=
  gd (obM M v0 10 15) <| gd (decide (grM M v0 7 ≠ 0)) <| gd (obM M (grM M v0 7) 1 9) <| (fH_isBlock (grM M v0 7) v1 M).bind fun q3 => if q3.1 = 0 then (some ((-1), q3.2)) else (gd (obM q3.2 v0 10 15) <| gd (decide (grM q3.2 v0 7 ≠ 0)) <| gd (obM q3.2 (grM q3.2 v0 7) 1 9) <| (fH_isHeld (grM q3.2 v0 7) v1 q3.2).bind fun q7 => if q7.1 = 0 then (BA_held_29 0 q7.2) else (BA_held_29 1 q7.2))
def BA_refuse_23 (M : Mem) : Option (Int32 × Mem) :=
  some ((-1), M)
def fA_refuse (v0 : Nat) (v1 : Int32) (M : Mem) : Option (Int32 × Mem) :=
  if v1 < 0 then (BA_refuse_23  M) else (gd (obM M v0 10 15) <| gd (decide (grM M v0 11 ≠ 0)) <| gd (lnI M (grM M v0 11)) <| if (Int32.ofNat (tgM M (grM M v0 11)).2) ≤ v1 then (BA_refuse_23  M) else (gd (rdI M (grM M v0 11) v1) <| gd (wrI M (grM M v0 11) v1) <| BA_refuse_23  (siM M (grM M v0 11) (Int32.toNatClampNeg v1) ((giM M (grM M v0 11) (Int32.toNatClampNeg v1)) + 1))))
def BU_kindFor_33 (M : Mem) : Option (Int32 × Mem) :=
  some ((-1), M)
def BU_kindFor_2 (K : Nat → Int32 → Int32 → Mem → Option ((Int32 × Mem) ⊕ (Mem))) (v0 : Nat) (v1 : Int32) (v2 : Int32) (M : Mem) : Option ((Int32 × Mem) ⊕ (Mem)) :=
  gd (obM M v0 7 3) <| if (giM M v0 2) ≤ v2 then (some (.inr M)) else (if v1 < 1 then (some (.inr M)) else (gd (decide (grM M v0 1 ≠ 0)) <| gd (rdI M (grM M v0 1) v2) <| if (giM M (grM M v0 1) (Int32.toNatClampNeg v2)) < v1 then (K v0 v1 (v2 + 1) M) else (some (.inl (v2, M)))))
def LU_kindFor_2 : Nat → Nat → Int32 → Int32 → Mem → Option ((Int32 × Mem) ⊕ (Mem))
  | 0 => fun _ _ _ _ => none
  | f + 1 => BU_kindFor_2 (LU_kindFor_2 f)
def fU_kindFor (v0 : Nat) (v1 : Int32) (M : Mem) : Option (Int32 × Mem) :=
  (LU_kindFor_2 1000000 v0 v1 0 M).bind (Sum.elim (fun r2 => some r2) (fun y3 => BU_kindFor_33  y3))
def fH_usedOf (v0 : Nat) (v1 : Int32) (M : Mem) : Option (Int32 × Mem) :=
  gd (obM M v0 1 9) <| gd (decide (grM M v0 3 ≠ 0)) <| gd (rdI M (grM M v0 3) v1) <| gd (decide (grM M v0 5 ≠ 0)) <| gd (obM M (grM M v0 5) 0 4) <| gd (decide (grM M (grM M v0 5) 1 ≠ 0)) <| gd (rdI M (grM M (grM M v0 5) 1) ((v1 * 3) + 0)) <| gd (rdI M (grM M (grM M v0 5) 1) ((v1 * 3) + 1)) <| gd (rdI M (grM M (grM M v0 5) 1) ((v1 * 3) + 2)) <| some ((((giM M (grM M v0 3) (Int32.toNatClampNeg v1)) - (giM M (grM M (grM M v0 5) 1) (Int32.toNatClampNeg ((v1 * 3) + 0)))) - (giM M (grM M (grM M v0 5) 1) (Int32.toNatClampNeg ((v1 * 3) + 1)))) - (giM M (grM M (grM M v0 5) 1) (Int32.toNatClampNeg ((v1 * 3) + 2))), M)
def BH_pageFor_147 (K : Nat → Int32 → Int32 → Int32 → Mem → Option ((Int32 × Mem))) (v0 : Nat) (v2 : Int32) (v5 : Int32) (w0 : Int32) (M : Mem) : Option ((Int32 × Mem)) :=
  K v0 v2 w0 (v5 + 1) M
def BH_pageFor_145 (K : Nat → Int32 → Int32 → Int32 → Mem → Option ((Int32 × Mem))) (v0 : Nat) (v2 : Int32) (v4 : Int32) (v5 : Int32) (M : Mem) : Option ((Int32 × Mem)) :=
  BH_pageFor_147 K v0 v2 v5 v4 M
def BH_pageFor_123 (K : Nat → Int32 → Int32 → Int32 → Mem → Option ((Int32 × Mem))) (v0 : Nat) (v2 : Int32) (v4 : Int32) (v5 : Int32) (M : Mem) : Option ((Int32 × Mem)) :=
  if v4 = ((-1)) then (gd (obM M v0 1 9) <| gd (decide (grM M v0 1 ≠ 0)) <| gd (rdI M (grM M v0 1) v5) <| if (giM M (grM M v0 1) (Int32.toNatClampNeg v5)) = ((-1)) then (BH_pageFor_147 K v0 v2 v5 v5 M) else (BH_pageFor_145 K v0 v2 v4 v5 M)) else (BH_pageFor_145 K v0 v2 v4 v5 M)
def BH_pageFor_68 (K : Nat → Int32 → Int32 → Int32 → Mem → Option ((Int32 × Mem))) (v0 : Nat) (v2 : Int32) (v4 : Int32) (v5 : Int32) (M : Mem) : Option ((Int32 × Mem)) :=
  gd (obM M v0 1 9) <| gd (decide (grM M v0 0 ≠ 0)) <| gd (obM M (grM M v0 0) 7 3) <| gd (decide (grM M (grM M v0 0) 0 ≠ 0)) <| gd (rdI M (grM M (grM M v0 0) 0) 1) <| if (giM M (grM M (grM M v0 0) 0) (Int32.toNatClampNeg 1)) ≤ v5 then (some (v4, M)) else (gd (decide (grM M v0 1 ≠ 0)) <| gd (rdI M (grM M v0 1) v5) <| if (giM M (grM M v0 1) (Int32.toNatClampNeg v5)) = v2 then (gd (decide (grM M v0 2 ≠ 0)) <| gd (rdI M (grM M v0 2) v5) <| if (giM M (grM M v0 2) (Int32.toNatClampNeg v5)) = ((-1)) then ((fH_usedOf v0 v5 M).bind fun q10 => gd (obM q10.2 v0 1 9) <| gd (decide (grM q10.2 v0 3 ≠ 0)) <| gd (rdI q10.2 (grM q10.2 v0 3) v5) <| if (giM q10.2 (grM q10.2 v0 3) (Int32.toNatClampNeg v5)) ≤ q10.1 then (BH_pageFor_123 K v0 v2 v4 v5 q10.2) else (some (v5, q10.2))) else (BH_pageFor_123 K v0 v2 v4 v5 M)) else (BH_pageFor_123 K v0 v2 v4 v5 M))
def LH_pageFor_68 : Nat → Nat → Int32 → Int32 → Int32 → Mem → Option ((Int32 × Mem))
  | 0 => fun _ _ _ _ _ => none
  | f + 1 => BH_pageFor_68 (LH_pageFor_68 f)
def BH_pageFor_62 (v0 : Nat) (v2 : Int32) (M : Mem) : Option (Int32 × Mem) :=
  (LH_pageFor_68 1000000 v0 v2 ((-1)) 0 M).bind (fun r2 => some r2)
def BH_pageFor_18 (K : Nat → Int32 → Int32 → Int32 → Mem → Option ((Int32 × Mem) ⊕ (Mem))) (v0 : Nat) (v2 : Int32) (v3 : Int32) (v4 : Int32) (M : Mem) : Option ((Int32 × Mem) ⊕ (Mem)) :=
  if 16 ≤ v4 then (some (.inr M)) else (if v3 = ((-1)) then (some (.inr M)) else (gd (obM M v0 1 9) <| (fH_usedOf v0 v3 M).bind fun q1 => gd (obM q1.2 v0 1 9) <| gd (decide (grM q1.2 v0 3 ≠ 0)) <| gd (rdI q1.2 (grM q1.2 v0 3) v3) <| if (giM q1.2 (grM q1.2 v0 3) (Int32.toNatClampNeg v3)) ≤ q1.1 then (gd (decide (grM q1.2 v0 4 ≠ 0)) <| gd (obM q1.2 (grM q1.2 v0 4) 0 4) <| gd (decide (grM q1.2 (grM q1.2 v0 4) 2 ≠ 0)) <| gd (rdI q1.2 (grM q1.2 (grM q1.2 v0 4) 2) v3) <| K v0 v2 (giM q1.2 (grM q1.2 (grM q1.2 v0 4) 2) (Int32.toNatClampNeg v3)) (v4 + 1) q1.2) else (some (.inl (v3, q1.2)))))
def LH_pageFor_18 : Nat → Nat → Int32 → Int32 → Int32 → Mem → Option ((Int32 × Mem) ⊕ (Mem))
  | 0 => fun _ _ _ _ _ => none
  | f + 1 => BH_pageFor_18 (LH_pageFor_18 f)
def fH_pageFor (v0 : Nat) (v1 : Int32) (v2 : Int32) (M : Mem) : Option (Int32 × Mem) :=
  gd (obM M v0 1 9) <| gd (decide (grM M v0 4 ≠ 0)) <| gd (obM M (grM M v0 4) 0 4) <| gd (decide (grM M (grM M v0 4) 0 ≠ 0)) <| (fH_queueOf v0 v1 v2 M).bind fun q5 => gd (rdI q5.2 (grM M (grM M v0 4) 0) q5.1) <| (LH_pageFor_18 1000000 v0 v2 (giM q5.2 (grM M (grM M v0 4) 0) (Int32.toNatClampNeg q5.1)) 0 q5.2).bind (Sum.elim (fun r8 => some r8) (fun y9 => BH_pageFor_62 v0 v2 y9))
def fC_copyFrom (v0 : Nat) (v1 : Nat) (M : Mem) : Option (Mem) :=
  gd (obM M v1 0 4) <| gd (decide (grM M v1 0 ≠ 0)) <| gd (obM M v0 0 4) <| gd (decide (grM M v0 0 ≠ 0)) <| gd (lnI M (grM M v0 0)) <| gd (cpM M (grM M v1 0) 0 (grM M v0 0) 0 (Int32.ofNat (tgM M (grM M v0 0)).2)) <| gd (decide (grM M v1 1 ≠ 0)) <| gd (decide (grM M v0 1 ≠ 0)) <| gd (lnI M (grM M v0 1)) <| gd (cpM M (grM M v1 1) 0 (grM M v0 1) 0 (Int32.ofNat (tgM M (grM M v0 1)).2)) <| gd (decide (grM M v1 2 ≠ 0)) <| gd (decide (grM M v0 2 ≠ 0)) <| gd (lnI M (grM M v0 2)) <| gd (cpM M (grM M v1 2) 0 (grM M v0 2) 0 (Int32.ofNat (tgM M (grM M v0 2)).2)) <| gd (decide (grM M v1 3 ≠ 0)) <| gd (decide (grM M v0 3 ≠ 0)) <| gd (lnI M (grM M v0 3)) <| gd (cpM M (grM M v1 3) 0 (grM M v0 3) 0 (Int32.ofNat (tgM M (grM M v0 3)).2)) <| some (saM (saM (saM (saM M (grM M v0 0) (va_cpy (giM M (grM M v1 0)) (giM M (grM M v0 0)) (Int32.toNatClampNeg 0) (Int32.toNatClampNeg 0) (Int32.toNatClampNeg (Int32.ofNat (tgM M (grM M v0 0)).2)))) (grM M v0 1) (va_cpy (giM (saM M (grM M v0 0) (va_cpy (giM M (grM M v1 0)) (giM M (grM M v0 0)) (Int32.toNatClampNeg 0) (Int32.toNatClampNeg 0) (Int32.toNatClampNeg (Int32.ofNat (tgM M (grM M v0 0)).2)))) (grM M v1 1)) (giM (saM M (grM M v0 0) (va_cpy (giM M (grM M v1 0)) (giM M (grM M v0 0)) (Int32.toNatClampNeg 0) (Int32.toNatClampNeg 0) (Int32.toNatClampNeg (Int32.ofNat (tgM M (grM M v0 0)).2)))) (grM M v0 1)) (Int32.toNatClampNeg 0) (Int32.toNatClampNeg 0) (Int32.toNatClampNeg (Int32.ofNat (tgM M (grM M v0 1)).2)))) (grM M v0 2) (va_cpy (giM (saM (saM M (grM M v0 0) (va_cpy (giM M (grM M v1 0)) (giM M (grM M v0 0)) (Int32.toNatClampNeg 0) (Int32.toNatClampNeg 0) (Int32.toNatClampNeg (Int32.ofNat (tgM M (grM M v0 0)).2)))) (grM M v0 1) (va_cpy (giM (saM M (grM M v0 0) (va_cpy (giM M (grM M v1 0)) (giM M (grM M v0 0)) (Int32.toNatClampNeg 0) (Int32.toNatClampNeg 0) (Int32.toNatClampNeg (Int32.ofNat (tgM M (grM M v0 0)).2)))) (grM M v1 1)) (giM (saM M (grM M v0 0) (va_cpy (giM M (grM M v1 0)) (giM M (grM M v0 0)) (Int32.toNatClampNeg 0) (Int32.toNatClampNeg 0) (Int32.toNatClampNeg (Int32.ofNat (tgM M (grM M v0 0)).2)))) (grM M v0 1)) (Int32.toNatClampNeg 0) (Int32.toNatClampNeg 0) (Int32.toNatClampNeg (Int32.ofNat (tgM M (grM M v0 1)).2)))) (grM M v1 2)) (giM (saM (saM M (grM M v0 0) (va_cpy (giM M (grM M v1 0)) (giM M (grM M v0 0)) (Int32.toNatClampNeg 0) (Int32.toNatClampNeg 0) (Int32.toNatClampNeg (Int32.ofNat (tgM M (grM M v0 0)).2)))) (grM M v0 1) (va_cpy (giM (saM M (grM M v0 0) (va_cpy (giM M (grM M v1 0)) (giM M (grM M v0 0)) (Int32.toNatClampNeg 0) (Int32.toNatClampNeg 0) (Int32.toNatClampNeg (Int32.ofNat (tgM M (grM M v0 0)).2)))) (grM M v1 1)) (giM (saM M (grM M v0 0) (va_cpy (giM M (grM M v1 0)) (giM M (grM M v0 0)) (Int32.toNatClampNeg 0) (Int32.toNatClampNeg 0) (Int32.toNatClampNeg (Int32.ofNat (tgM M (grM M v0 0)).2)))) (grM M v0 1)) (Int32.toNatClampNeg 0) (Int32.toNatClampNeg 0) (Int32.toNatClampNeg (Int32.ofNat (tgM M (grM M v0 1)).2)))) (grM M v0 2)) (Int32.toNatClampNeg 0) (Int32.toNatClampNeg 0) (Int32.toNatClampNeg (Int32.ofNat (tgM M (grM M v0 2)).2)))) (grM M v0 3) (va_cpy (giM (saM (saM (saM M (grM M v0 0) (va_cpy (giM M (grM M v1 0)) (giM M (grM M v0 0)) (Int32.toNatClampNeg 0) (Int32.toNatClampNeg 0) (Int32.toNatClampNeg (Int32.ofNat (tgM M (grM M v0 0)).2)))) (grM M v0 1) (va_cpy (giM (saM M (grM M v0 0) (va_cpy (giM M (grM M v1 0)) (giM M (grM M v0 0)) (Int32.toNatClampNeg 0) (Int32.toNatClampNeg 0) (Int32.toNatClampNeg (Int32.ofNat (tgM M (grM M v0 0)).2)))) (grM M v1 1)) (giM (saM M (grM M v0 0) (va_cpy (giM M (grM M v1 0)) (giM M (grM M v0 0)) (Int32.toNatClampNeg 0) (Int32.toNatClampNeg 0) (Int32.toNatClampNeg (Int32.ofNat (tgM M (grM M v0 0)).2)))) (grM M v0 1)) (Int32.toNatClampNeg 0) (Int32.toNatClampNeg 0) (Int32.toNatClampNeg (Int32.ofNat (tgM M (grM M v0 1)).2)))) (grM M v0 2) (va_cpy (giM (saM (saM M (grM M v0 0) (va_cpy (giM M (grM M v1 0)) (giM M (grM M v0 0)) (Int32.toNatClampNeg 0) (Int32.toNatClampNeg 0) (Int32.toNatClampNeg (Int32.ofNat (tgM M (grM M v0 0)).2)))) (grM M v0 1) (va_cpy (giM (saM M (grM M v0 0) (va_cpy (giM M (grM M v1 0)) (giM M (grM M v0 0)) (Int32.toNatClampNeg 0) (Int32.toNatClampNeg 0) (Int32.toNatClampNeg (Int32.ofNat (tgM M (grM M v0 0)).2)))) (grM M v1 1)) (giM (saM M (grM M v0 0) (va_cpy (giM M (grM M v1 0)) (giM M (grM M v0 0)) (Int32.toNatClampNeg 0) (Int32.toNatClampNeg 0) (Int32.toNatClampNeg (Int32.ofNat (tgM M (grM M v0 0)).2)))) (grM M v0 1)) (Int32.toNatClampNeg 0) (Int32.toNatClampNeg 0) (Int32.toNatClampNeg (Int32.ofNat (tgM M (grM M v0 1)).2)))) (grM M v1 2)) (giM (saM (saM M (grM M v0 0) (va_cpy (giM M (grM M v1 0)) (giM M (grM M v0 0)) (Int32.toNatClampNeg 0) (Int32.toNatClampNeg 0) (Int32.toNatClampNeg (Int32.ofNat (tgM M (grM M v0 0)).2)))) (grM M v0 1) (va_cpy (giM (saM M (grM M v0 0) (va_cpy (giM M (grM M v1 0)) (giM M (grM M v0 0)) (Int32.toNatClampNeg 0) (Int32.toNatClampNeg 0) (Int32.toNatClampNeg (Int32.ofNat (tgM M (grM M v0 0)).2)))) (grM M v1 1)) (giM (saM M (grM M v0 0) (va_cpy (giM M (grM M v1 0)) (giM M (grM M v0 0)) (Int32.toNatClampNeg 0) (Int32.toNatClampNeg 0) (Int32.toNatClampNeg (Int32.ofNat (tgM M (grM M v0 0)).2)))) (grM M v0 1)) (Int32.toNatClampNeg 0) (Int32.toNatClampNeg 0) (Int32.toNatClampNeg (Int32.ofNat (tgM M (grM M v0 1)).2)))) (grM M v0 2)) (Int32.toNatClampNeg 0) (Int32.toNatClampNeg 0) (Int32.toNatClampNeg (Int32.ofNat (tgM M (grM M v0 2)).2)))) (grM M v1 3)) (giM (saM (saM (saM M (grM M v0 0) (va_cpy (giM M (grM M v1 0)) (giM M (grM M v0 0)) (Int32.toNatClampNeg 0) (Int32.toNatClampNeg 0) (Int32.toNatClampNeg (Int32.ofNat (tgM M (grM M v0 0)).2)))) (grM M v0 1) (va_cpy (giM (saM M (grM M v0 0) (va_cpy (giM M (grM M v1 0)) (giM M (grM M v0 0)) (Int32.toNatClampNeg 0) (Int32.toNatClampNeg 0) (Int32.toNatClampNeg (Int32.ofNat (tgM M (grM M v0 0)).2)))) (grM M v1 1)) (giM (saM M (grM M v0 0) (va_cpy (giM M (grM M v1 0)) (giM M (grM M v0 0)) (Int32.toNatClampNeg 0) (Int32.toNatClampNeg 0) (Int32.toNatClampNeg (Int32.ofNat (tgM M (grM M v0 0)).2)))) (grM M v0 1)) (Int32.toNatClampNeg 0) (Int32.toNatClampNeg 0) (Int32.toNatClampNeg (Int32.ofNat (tgM M (grM M v0 1)).2)))) (grM M v0 2) (va_cpy (giM (saM (saM M (grM M v0 0) (va_cpy (giM M (grM M v1 0)) (giM M (grM M v0 0)) (Int32.toNatClampNeg 0) (Int32.toNatClampNeg 0) (Int32.toNatClampNeg (Int32.ofNat (tgM M (grM M v0 0)).2)))) (grM M v0 1) (va_cpy (giM (saM M (grM M v0 0) (va_cpy (giM M (grM M v1 0)) (giM M (grM M v0 0)) (Int32.toNatClampNeg 0) (Int32.toNatClampNeg 0) (Int32.toNatClampNeg (Int32.ofNat (tgM M (grM M v0 0)).2)))) (grM M v1 1)) (giM (saM M (grM M v0 0) (va_cpy (giM M (grM M v1 0)) (giM M (grM M v0 0)) (Int32.toNatClampNeg 0) (Int32.toNatClampNeg 0) (Int32.toNatClampNeg (Int32.ofNat (tgM M (grM M v0 0)).2)))) (grM M v0 1)) (Int32.toNatClampNeg 0) (Int32.toNatClampNeg 0) (Int32.toNatClampNeg (Int32.ofNat (tgM M (grM M v0 1)).2)))) (grM M v1 2)) (giM (saM (saM M (grM M v0 0) (va_cpy (giM M (grM M v1 0)) (giM M (grM M v0 0)) (Int32.toNatClampNeg 0) (Int32.toNatClampNeg 0) (Int32.toNatClampNeg (Int32.ofNat (tgM M (grM M v0 0)).2)))) (grM M v0 1) (va_cpy (giM (saM M (grM M v0 0) (va_cpy (giM M (grM M v1 0)) (giM M (grM M v0 0)) (Int32.toNatClampNeg 0) (Int32.toNatClampNeg 0) (Int32.toNatClampNeg (Int32.ofNat (tgM M (grM M v0 0)).2)))) (grM M v1 1)) (giM (saM M (grM M v0 0) (va_cpy (giM M (grM M v1 0)) (giM M (grM M v0 0)) (Int32.toNatClampNeg 0) (Int32.toNatClampNeg 0) (Int32.toNatClampNeg (Int32.ofNat (tgM M (grM M v0 0)).2)))) (grM M v0 1)) (Int32.toNatClampNeg 0) (Int32.toNatClampNeg 0) (Int32.toNatClampNeg (Int32.ofNat (tgM M (grM M v0 1)).2)))) (grM M v0 2)) (Int32.toNatClampNeg 0) (Int32.toNatClampNeg 0) (Int32.toNatClampNeg (Int32.ofNat (tgM M (grM M v0 2)).2)))) (grM M v0 3)) (Int32.toNatClampNeg 0) (Int32.toNatClampNeg 0) (Int32.toNatClampNeg (Int32.ofNat (tgM M (grM M v0 3)).2))))
def fL_copyFrom (v0 : Nat) (v1 : Nat) (M : Mem) : Option (Mem) :=
  gd (obM M v1 2 2) <| gd (decide (grM M v1 0 ≠ 0)) <| gd (obM M v0 2 2) <| gd (decide (grM M v0 0 ≠ 0)) <| gd (lnI M (grM M v0 0)) <| gd (cpM M (grM M v1 0) 0 (grM M v0 0) 0 (Int32.ofNat (tgM M (grM M v0 0)).2)) <| some (siM (saM M (grM M v0 0) (va_cpy (giM M (grM M v1 0)) (giM M (grM M v0 0)) (Int32.toNatClampNeg 0) (Int32.toNatClampNeg 0) (Int32.toNatClampNeg (Int32.ofNat (tgM M (grM M v0 0)).2)))) v0 1 (giM (saM M (grM M v0 0) (va_cpy (giM M (grM M v1 0)) (giM M (grM M v0 0)) (Int32.toNatClampNeg 0) (Int32.toNatClampNeg 0) (Int32.toNatClampNeg (Int32.ofNat (tgM M (grM M v0 0)).2)))) v1 1))
def fH_copyFrom (v0 : Nat) (v1 : Nat) (M : Mem) : Option (Mem) :=
  gd (obM M v1 1 9) <| gd (decide (grM M v1 1 ≠ 0)) <| gd (obM M v0 1 9) <| gd (decide (grM M v0 1 ≠ 0)) <| gd (cpM M (grM M v1 1) 0 (grM M v0 1) 0 16) <| gd (decide (grM M v1 2 ≠ 0)) <| gd (decide (grM M v0 2 ≠ 0)) <| gd (cpM M (grM M v1 2) 0 (grM M v0 2) 0 16) <| gd (decide (grM M v1 3 ≠ 0)) <| gd (decide (grM M v0 3 ≠ 0)) <| gd (cpM M (grM M v1 3) 0 (grM M v0 3) 0 16) <| gd (decide (grM M v0 4 ≠ 0)) <| gd (decide (grM M v1 4 ≠ 0)) <| gd (obM M (grM M v0 4) 0 4) <| (fC_copyFrom (grM M v0 4) (grM M v1 4) (saM (saM (saM M (grM M v0 1) (va_cpy (giM M (grM M v1 1)) (giM M (grM M v0 1)) (Int32.toNatClampNeg 0) (Int32.toNatClampNeg 0) (Int32.toNatClampNeg 16))) (grM M v0 2) (va_cpy (giM (saM M (grM M v0 1) (va_cpy (giM M (grM M v1 1)) (giM M (grM M v0 1)) (Int32.toNatClampNeg 0) (Int32.toNatClampNeg 0) (Int32.toNatClampNeg 16))) (grM M v1 2)) (giM (saM M (grM M v0 1) (va_cpy (giM M (grM M v1 1)) (giM M (grM M v0 1)) (Int32.toNatClampNeg 0) (Int32.toNatClampNeg 0) (Int32.toNatClampNeg 16))) (grM M v0 2)) (Int32.toNatClampNeg 0) (Int32.toNatClampNeg 0) (Int32.toNatClampNeg 16))) (grM M v0 3) (va_cpy (giM (saM (saM M (grM M v0 1) (va_cpy (giM M (grM M v1 1)) (giM M (grM M v0 1)) (Int32.toNatClampNeg 0) (Int32.toNatClampNeg 0) (Int32.toNatClampNeg 16))) (grM M v0 2) (va_cpy (giM (saM M (grM M v0 1) (va_cpy (giM M (grM M v1 1)) (giM M (grM M v0 1)) (Int32.toNatClampNeg 0) (Int32.toNatClampNeg 0) (Int32.toNatClampNeg 16))) (grM M v1 2)) (giM (saM M (grM M v0 1) (va_cpy (giM M (grM M v1 1)) (giM M (grM M v0 1)) (Int32.toNatClampNeg 0) (Int32.toNatClampNeg 0) (Int32.toNatClampNeg 16))) (grM M v0 2)) (Int32.toNatClampNeg 0) (Int32.toNatClampNeg 0) (Int32.toNatClampNeg 16))) (grM M v1 3)) (giM (saM (saM M (grM M v0 1) (va_cpy (giM M (grM M v1 1)) (giM M (grM M v0 1)) (Int32.toNatClampNeg 0) (Int32.toNatClampNeg 0) (Int32.toNatClampNeg 16))) (grM M v0 2) (va_cpy (giM (saM M (grM M v0 1) (va_cpy (giM M (grM M v1 1)) (giM M (grM M v0 1)) (Int32.toNatClampNeg 0) (Int32.toNatClampNeg 0) (Int32.toNatClampNeg 16))) (grM M v1 2)) (giM (saM M (grM M v0 1) (va_cpy (giM M (grM M v1 1)) (giM M (grM M v0 1)) (Int32.toNatClampNeg 0) (Int32.toNatClampNeg 0) (Int32.toNatClampNeg 16))) (grM M v0 2)) (Int32.toNatClampNeg 0) (Int32.toNatClampNeg 0) (Int32.toNatClampNeg 16))) (grM M v0 3)) (Int32.toNatClampNeg 0) (Int32.toNatClampNeg 0) (Int32.toNatClampNeg 16)))).bind fun q14 => gd (obM q14 v0 1 9) <| gd (decide (grM q14 v0 5 ≠ 0)) <| gd (obM q14 v1 1 9) <| gd (decide (grM q14 v1 5 ≠ 0)) <| gd (obM q14 (grM q14 v0 5) 0 4) <| (fC_copyFrom (grM q14 v0 5) (grM q14 v1 5) q14).bind fun q20 => gd (obM q20 v1 1 9) <| gd (decide (grM q20 v1 6 ≠ 0)) <| gd (obM q20 v0 1 9) <| gd (decide (grM q20 v0 6 ≠ 0)) <| gd (cpM q20 (grM q20 v1 6) 0 (grM q20 v0 6) 0 4) <| gd (decide (grM q20 v1 7 ≠ 0)) <| gd (decide (grM q20 v0 7 ≠ 0)) <| gd (cpM q20 (grM q20 v1 7) 0 (grM q20 v0 7) 0 4) <| gd (decide (grM q20 v0 8 ≠ 0)) <| gd (decide (grM q20 v1 8 ≠ 0)) <| gd (obM q20 (grM q20 v0 8) 2 2) <| (fL_copyFrom (grM q20 v0 8) (grM q20 v1 8) (saM (saM q20 (grM q20 v0 6) (va_cpy (giM q20 (grM q20 v1 6)) (giM q20 (grM q20 v0 6)) (Int32.toNatClampNeg 0) (Int32.toNatClampNeg 0) (Int32.toNatClampNeg 4))) (grM q20 v0 7) (va_cpy (giM (saM q20 (grM q20 v0 6) (va_cpy (giM q20 (grM q20 v1 6)) (giM q20 (grM q20 v0 6)) (Int32.toNatClampNeg 0) (Int32.toNatClampNeg 0) (Int32.toNatClampNeg 4))) (grM q20 v1 7)) (giM (saM q20 (grM q20 v0 6) (va_cpy (giM q20 (grM q20 v1 6)) (giM q20 (grM q20 v0 6)) (Int32.toNatClampNeg 0) (Int32.toNatClampNeg 0) (Int32.toNatClampNeg 4))) (grM q20 v0 7)) (Int32.toNatClampNeg 0) (Int32.toNatClampNeg 0) (Int32.toNatClampNeg 4)))).bind fun q32 => some q32
def BP_keep_32 (v0 : Nat) (v1 : Nat) (M : Mem) : Option (Mem) :=
  gd (obM M v0 4 3) <| gd (decide (grM M v0 0 ≠ 0)) <| gd (wrT 103 M (grM M v0 0) (((giM M v0 1) + (giM M v0 2)) - ((giM M v0 1) + (giM M v0 2)) / 40 * 40)) <| gd (decide (grM M (grM M v0 0) (Int32.toNatClampNeg (((giM M v0 1) + (giM M v0 2)) - ((giM M v0 1) + (giM M v0 2)) / 40 * 40)) ≠ 0)) <| gd (obM M (grM M (grM M v0 0) (Int32.toNatClampNeg (((giM M v0 1) + (giM M v0 2)) - ((giM M v0 1) + (giM M v0 2)) / 40 * 40))) 1 9) <| (fH_copyFrom (grM M (grM M v0 0) (Int32.toNatClampNeg (((giM M v0 1) + (giM M v0 2)) - ((giM M v0 1) + (giM M v0 2)) / 40 * 40))) v1 M).bind fun q5 => gd (obM q5 v0 4 3) <| some (siM q5 v0 2 ((giM q5 v0 2) + 1))
def fP_keep (v0 : Nat) (v1 : Nat) (M : Mem) : Option (Mem) :=
  gd (obM M v0 4 3) <| if (giM M v0 2) = 40 then (BP_keep_32 v0 v1 (siM (siM M v0 1 (((giM M v0 1) + 1) - ((giM M v0 1) + 1) / 40 * 40)) v0 2 ((giM (siM M v0 1 (((giM M v0 1) + 1) - ((giM M v0 1) + 1) / 40 * 40)) v0 2) - 1))) else (BP_keep_32 v0 v1 M)
def fH_lengthOf (v0 : Nat) (v1 : Int32) (v2 : Int32) (M : Mem) : Option (Int32 × Mem) :=
  gd (obM M v0 1 9) <| gd (decide (grM M v0 5 ≠ 0)) <| gd (obM M (grM M v0 5) 0 4) <| gd (decide (grM M (grM M v0 5) 1 ≠ 0)) <| gd (rdI M (grM M (grM M v0 5) 1) ((v1 * 3) + v2)) <| some (giM M (grM M (grM M v0 5) 1) (Int32.toNatClampNeg ((v1 * 3) + v2)), M)
def BH_howFrom_84 (w0 : Int32) (M : Mem) : Option (Int32 × Mem) :=
  some (w0, M)
def fH_howFrom (v0 : Nat) (v1 : Int32) (v2 : Int32) (M : Mem) : Option (Int32 × Mem) :=
  gd (obM M v0 1 9) <| (fH_isPage v0 v2 M).bind fun q1 => if q1.1 = 0 then (some ((-1), q1.2)) else (gd (obM q1.2 v0 1 9) <| gd (decide (grM q1.2 v0 1 ≠ 0)) <| gd (rdI q1.2 (grM q1.2 v0 1) v2) <| if (giM q1.2 (grM q1.2 v0 1) (Int32.toNatClampNeg v2)) = ((-1)) then (some (5, q1.2)) else (gd (decide (grM q1.2 v0 2 ≠ 0)) <| gd (rdI q1.2 (grM q1.2 v0 2) v2) <| if (giM q1.2 (grM q1.2 v0 2) (Int32.toNatClampNeg v2)) = v1 then (gd (decide (grM q1.2 v0 4 ≠ 0)) <| gd (obM q1.2 (grM q1.2 v0 4) 0 4) <| gd (decide (grM q1.2 (grM q1.2 v0 4) 0 ≠ 0)) <| (fH_queueOf v0 v1 (giM q1.2 (grM q1.2 v0 1) (Int32.toNatClampNeg v2)) q1.2).bind fun q11 => gd (rdI q11.2 (grM q1.2 (grM q1.2 v0 4) 0) q11.1) <| if (giM q11.2 (grM q1.2 (grM q1.2 v0 4) 0) (Int32.toNatClampNeg q11.1)) = v2 then (gd (obM q11.2 v0 1 9) <| (fH_lengthOf v0 v2 0 q11.2).bind fun q13 => if q13.1 ≤ 0 then (gd (obM q13.2 v0 1 9) <| (fH_lengthOf v0 v2 1 q13.2).bind fun q15 => if q15.1 ≤ 0 then (BH_howFrom_84 2 q15.2) else (BH_howFrom_84 1 q15.2)) else (some (0, q13.2))) else (some (3, q11.2))) else (some (4, q1.2))))
def BC_pop_23 (M : Mem) : Option (Int32 × Mem) :=
  some ((-1), M)
def fC_pop (v0 : Nat) (v1 : Int32) (M : Mem) : Option (Int32 × Mem) :=
  if v1 < 0 then (BC_pop_23  M) else (gd (obM M v0 0 4) <| gd (decide (grM M v0 0 ≠ 0)) <| gd (lnI M (grM M v0 0)) <| if (Int32.ofNat (tgM M (grM M v0 0)).2) ≤ v1 then (BC_pop_23  M) else (gd (rdI M (grM M v0 0) v1) <| if (giM M (grM M v0 0) (Int32.toNatClampNeg v1)) = ((-1)) then (BC_pop_23  M) else (gd (decide (grM M v0 2 ≠ 0)) <| gd (rdI M (grM M v0 2) (giM M (grM M v0 0) (Int32.toNatClampNeg v1))) <| gd (wrI M (grM M v0 0) v1) <| gd (wrI M (grM M v0 2) (giM M (grM M v0 0) (Int32.toNatClampNeg v1))) <| gd (decide (grM M v0 3 ≠ 0)) <| gd (wrI M (grM M v0 3) (giM M (grM M v0 0) (Int32.toNatClampNeg v1))) <| gd (decide (grM M v0 1 ≠ 0)) <| gd (rdI M (grM M v0 1) v1) <| gd (wrI M (grM M v0 1) v1) <| some (giM M (grM M v0 0) (Int32.toNatClampNeg v1), siM (siM (siM (siM M (grM M v0 0) (Int32.toNatClampNeg v1) (giM M (grM M v0 2) (Int32.toNatClampNeg (giM M (grM M v0 0) (Int32.toNatClampNeg v1))))) (grM M v0 2) (Int32.toNatClampNeg (giM M (grM M v0 0) (Int32.toNatClampNeg v1))) ((-1))) (grM M v0 3) (Int32.toNatClampNeg (giM M (grM M v0 0) (Int32.toNatClampNeg v1))) ((-1))) (grM M v0 1) (Int32.toNatClampNeg v1) ((giM (siM (siM (siM M (grM M v0 0) (Int32.toNatClampNeg v1) (giM M (grM M v0 2) (Int32.toNatClampNeg (giM M (grM M v0 0) (Int32.toNatClampNeg v1))))) (grM M v0 2) (Int32.toNatClampNeg (giM M (grM M v0 0) (Int32.toNatClampNeg v1))) ((-1))) (grM M v0 3) (Int32.toNatClampNeg (giM M (grM M v0 0) (Int32.toNatClampNeg v1))) ((-1))) (grM M v0 1) (Int32.toNatClampNeg v1)) - 1)))))
def BU_blocksOf_38 (w0 : Int32) (M : Mem) : Option (Int32 × Mem) :=
  some (w0, M)
def BU_blocksOf_37 (M : Mem) : Option (Int32 × Mem) :=
  BU_blocksOf_38 0 M
def fU_blocksOf (v0 : Nat) (v1 : Int32) (M : Mem) : Option (Int32 × Mem) :=
  if v1 < 0 then (BU_blocksOf_37  M) else (gd (obM M v0 7 3) <| if (giM M v0 2) ≤ v1 then (BU_blocksOf_37  M) else (gd (decide (grM M v0 1 ≠ 0)) <| gd (rdI M (grM M v0 1) v1) <| if (giM M (grM M v0 1) (Int32.toNatClampNeg v1)) ≤ 0 then (BU_blocksOf_37  M) else (gd (decide (grM M v0 0 ≠ 0)) <| gd (rdI M (grM M v0 0) 2) <| gd (decide (¬ (giM M (grM M v0 1) (Int32.toNatClampNeg v1)) = 0)) <| BU_blocksOf_38 ((giM M (grM M v0 0) (Int32.toNatClampNeg 2)) / (giM M (grM M v0 1) (Int32.toNatClampNeg v1))) M)))
def BC_push_26 (M : Mem) : Option (Mem) :=
  some M
def fC_push (v0 : Nat) (v1 : Int32) (v2 : Int32) (M : Mem) : Option (Mem) :=
  if v1 < 0 then (BC_push_26  M) else (gd (obM M v0 0 4) <| gd (decide (grM M v0 0 ≠ 0)) <| gd (lnI M (grM M v0 0)) <| if (Int32.ofNat (tgM M (grM M v0 0)).2) ≤ v1 then (BC_push_26  M) else (if v2 < 0 then (BC_push_26  M) else (gd (decide (grM M v0 2 ≠ 0)) <| gd (lnI M (grM M v0 2)) <| if v2 < (Int32.ofNat (tgM M (grM M v0 2)).2) then (gd (rdI M (grM M v0 0) v1) <| gd (wrI M (grM M v0 2) v2) <| gd (wrI M (grM M v0 0) v1) <| gd (decide (grM M v0 3 ≠ 0)) <| gd (wrI M (grM M v0 3) v2) <| gd (decide (grM M v0 1 ≠ 0)) <| gd (rdI M (grM M v0 1) v1) <| gd (wrI M (grM M v0 1) v1) <| some (siM (siM (siM (siM M (grM M v0 2) (Int32.toNatClampNeg v2) (giM M (grM M v0 0) (Int32.toNatClampNeg v1))) (grM M v0 0) (Int32.toNatClampNeg v1) v2) (grM M v0 3) (Int32.toNatClampNeg v2) v1) (grM M v0 1) (Int32.toNatClampNeg v1) ((giM (siM (siM (siM M (grM M v0 2) (Int32.toNatClampNeg v2) (giM M (grM M v0 0) (Int32.toNatClampNeg v1))) (grM M v0 0) (Int32.toNatClampNeg v1) v2) (grM M v0 3) (Int32.toNatClampNeg v2) v1) (grM M v0 1) (Int32.toNatClampNeg v1)) + 1))) else (BC_push_26  M))))
def BH_fill_30 (K : Nat → Int32 → Int32 → Mem → Option ((Mem))) (v0 : Nat) (v1 : Int32) (v3 : Int32) (M : Mem) : Option ((Mem)) :=
  if v3 < 0 then (some M) else (gd (obM M v0 1 9) <| gd (decide (grM M v0 5 ≠ 0)) <| (fH_listOf v0 v1 0 M).bind fun q3 => gd (obM q3.2 (grM M v0 5) 0 4) <| (fC_push (grM M v0 5) q3.1 ((v1 * 40) + v3) q3.2).bind fun q4 => K v0 v1 (v3 + (-1)) q4)
def LH_fill_30 : Nat → Nat → Int32 → Int32 → Mem → Option ((Mem))
  | 0 => fun _ _ _ _ => none
  | f + 1 => BH_fill_30 (LH_fill_30 f)
def fH_fill (v0 : Nat) (v1 : Int32) (v2 : Int32) (M : Mem) : Option (Mem) :=
  gd (obM M v0 1 9) <| gd (decide (grM M v0 1 ≠ 0)) <| gd (wrI M (grM M v0 1) v1) <| gd (decide (grM M v0 3 ≠ 0)) <| gd (decide (grM M v0 0 ≠ 0)) <| gd (obM M (grM M v0 0) 7 3) <| (fU_blocksOf (grM M v0 0) v2 (siM M (grM M v0 1) (Int32.toNatClampNeg v1) v2)).bind fun q6 => gd (wrI q6.2 (grM M v0 3) v1) <| gd (obM q6.2 v0 1 9) <| gd (decide (grM q6.2 v0 3 ≠ 0)) <| gd (rdI q6.2 (grM q6.2 v0 3) v1) <| (LH_fill_30 1000000 v0 v1 ((giM (siM q6.2 (grM M v0 3) (Int32.toNatClampNeg v1) q6.1) (grM q6.2 v0 3) (Int32.toNatClampNeg v1)) - 1) (siM q6.2 (grM M v0 3) (Int32.toNatClampNeg v1) q6.1)).bind (fun r13 => some r13)
def BC_append_96 (v0 : Nat) (v1 : Int32) (v2 : Int32) (M : Mem) : Option (Mem) :=
  gd (obM M v0 0 4) <| gd (decide (grM M v0 2 ≠ 0)) <| gd (wrI M (grM M v0 2) v2) <| gd (decide (grM M v0 3 ≠ 0)) <| gd (wrI M (grM M v0 3) v2) <| gd (decide (grM M v0 1 ≠ 0)) <| gd (rdI M (grM M v0 1) v1) <| gd (wrI M (grM M v0 1) v1) <| some (siM (siM (siM M (grM M v0 2) (Int32.toNatClampNeg v2) ((-1))) (grM M v0 3) (Int32.toNatClampNeg v2) v1) (grM M v0 1) (Int32.toNatClampNeg v1) ((giM (siM (siM M (grM M v0 2) (Int32.toNatClampNeg v2) ((-1))) (grM M v0 3) (Int32.toNatClampNeg v2) v1) (grM M v0 1) (Int32.toNatClampNeg v1)) + 1))
def BC_append_74 (v0 : Nat) (v1 : Int32) (v2 : Int32) (v3 : Int32) (M : Mem) : Option (Mem) :=
  if v3 = ((-1)) then (gd (obM M v0 0 4) <| gd (decide (grM M v0 0 ≠ 0)) <| gd (wrI M (grM M v0 0) v1) <| BC_append_96 v0 v1 v2 (siM M (grM M v0 0) (Int32.toNatClampNeg v1) v2)) else (gd (obM M v0 0 4) <| gd (decide (grM M v0 2 ≠ 0)) <| gd (wrI M (grM M v0 2) v3) <| BC_append_96 v0 v1 v2 (siM M (grM M v0 2) (Int32.toNatClampNeg v3) v2))
def BC_append_40 (K : Nat → Int32 → Int32 → Int32 → Int32 → Int32 → Mem → Option ((Int32 × Mem))) (v0 : Nat) (v1 : Int32) (v2 : Int32) (v3 : Int32) (v4 : Int32) (v5 : Int32) (M : Mem) : Option ((Int32 × Mem)) :=
  gd (obM M v0 0 4) <| gd (decide (grM M v0 2 ≠ 0)) <| gd (lnI M (grM M v0 2)) <| if (Int32.ofNat (tgM M (grM M v0 2)).2) ≤ v4 then (some (v3, M)) else (if v5 = ((-1)) then (some (v3, M)) else (gd (rdI M (grM M v0 2) v5) <| K v0 v1 v2 v5 (v4 + 1) (giM M (grM M v0 2) (Int32.toNatClampNeg v5)) M))
def LC_append_40 : Nat → Nat → Int32 → Int32 → Int32 → Int32 → Int32 → Mem → Option ((Int32 × Mem))
  | 0 => fun _ _ _ _ _ _ _ => none
  | f + 1 => BC_append_40 (LC_append_40 f)
def BC_append_26 (M : Mem) : Option (Mem) :=
  some M
def fC_append (v0 : Nat) (v1 : Int32) (v2 : Int32) (M : Mem) : Option (Mem) :=
  if v1 < 0 then (BC_append_26  M) else (gd (obM M v0 0 4) <| gd (decide (grM M v0 0 ≠ 0)) <| gd (lnI M (grM M v0 0)) <| if (Int32.ofNat (tgM M (grM M v0 0)).2) ≤ v1 then (BC_append_26  M) else (if v2 < 0 then (BC_append_26  M) else (gd (decide (grM M v0 2 ≠ 0)) <| gd (lnI M (grM M v0 2)) <| if v2 < (Int32.ofNat (tgM M (grM M v0 2)).2) then (gd (rdI M (grM M v0 0) v1) <| (LC_append_40 1000000 v0 v1 v2 ((-1)) 0 (giM M (grM M v0 0) (Int32.toNatClampNeg v1)) M).bind (fun y8 => BC_append_74 v0 v1 v2 y8.1 y8.2)) else (BC_append_26  M))))
def BH_bringToFront_105 (M : Mem) : Option (Mem) :=
  some M
def BH_bringToFront_78 (v0 : Nat) (v1 : Int32) (v3 : Int32) (v4 : Int32) (M : Mem) : Option (Mem) :=
  gd (obM M v0 1 9) <| gd (decide (grM M v0 2 ≠ 0)) <| gd (rdI M (grM M v0 2) v3) <| if (giM M (grM M v0 2) (Int32.toNatClampNeg v3)) = v1 then (BH_bringToFront_105  M) else (gd (wrI M (grM M v0 2) v3) <| gd (decide (grM M v0 4 ≠ 0)) <| gd (obM M (grM M v0 4) 0 4) <| (fC_append (grM M v0 4) v4 v3 (siM M (grM M v0 2) (Int32.toNatClampNeg v3) v1)).bind fun q6 => BH_bringToFront_105  q6)
def BH_bringToFront_62 (v0 : Nat) (v1 : Int32) (v2 : Int32) (v3 : Int32) (v4 : Int32) (M : Mem) : Option (Mem) :=
  gd (obM M v0 1 9) <| gd (decide (grM M v0 1 ≠ 0)) <| gd (rdI M (grM M v0 1) v3) <| if (giM M (grM M v0 1) (Int32.toNatClampNeg v3)) = ((-1)) then ((fH_fill v0 v3 v2 M).bind fun q4 => BH_bringToFront_78 v0 v1 v3 v4 q4) else (BH_bringToFront_78 v0 v1 v3 v4 M)
def BH_bringToFront_11 (K : Nat → Int32 → Int32 → Int32 → Int32 → Int32 → Mem → Option ((Mem))) (v0 : Nat) (v1 : Int32) (v2 : Int32) (v3 : Int32) (v4 : Int32) (v5 : Int32) (M : Mem) : Option ((Mem)) :=
  if 16 ≤ v5 then (some M) else (gd (obM M v0 1 9) <| gd (decide (grM M v0 4 ≠ 0)) <| gd (obM M (grM M v0 4) 0 4) <| gd (decide (grM M (grM M v0 4) 0 ≠ 0)) <| gd (rdI M (grM M (grM M v0 4) 0) v4) <| if (giM M (grM M (grM M v0 4) 0) (Int32.toNatClampNeg v4)) = ((-1)) then (some M) else (if (giM M (grM M (grM M v0 4) 0) (Int32.toNatClampNeg v4)) = v3 then (some M) else ((fC_pop (grM M v0 4) v4 M).bind fun q6 => K v0 v1 v2 v3 v4 (v5 + 1) q6.2)))
def LH_bringToFront_11 : Nat → Nat → Int32 → Int32 → Int32 → Int32 → Int32 → Mem → Option ((Mem))
  | 0 => fun _ _ _ _ _ _ _ => none
  | f + 1 => BH_bringToFront_11 (LH_bringToFront_11 f)
def fH_bringToFront (v0 : Nat) (v1 : Int32) (v2 : Int32) (v3 : Int32) (M : Mem) : Option (Mem) :=
  gd (obM M v0 1 9) <| (fH_queueOf v0 v1 v2 M).bind fun q1 => (LH_bringToFront_11 1000000 v0 v1 v2 v3 q1.1 0 q1.2).bind (fun y4 => BH_bringToFront_62 v0 v1 v2 v3 q1.1 y4)
def BC_moveAhead_114 (v0 : Nat) (v1 : Int32) (v2 : Int32) (M : Mem) : Option (Mem) :=
  gd (obM M v0 0 4) <| gd (decide (grM M v0 0 ≠ 0)) <| gd (rdI M (grM M v0 0) v1) <| gd (wrI M (grM M v0 0) v2) <| gd (decide (grM M v0 1 ≠ 0)) <| gd (rdI M (grM M v0 1) v2) <| gd (rdI M (grM M v0 1) v1) <| gd (wrI M (grM M v0 1) v2) <| gd (wrI M (grM M v0 0) v1) <| gd (wrI M (grM M v0 1) v1) <| some (siM (siM (siM (siM M (grM M v0 0) (Int32.toNatClampNeg v2) (giM M (grM M v0 0) (Int32.toNatClampNeg v1))) (grM M v0 1) (Int32.toNatClampNeg v2) ((giM (siM M (grM M v0 0) (Int32.toNatClampNeg v2) (giM M (grM M v0 0) (Int32.toNatClampNeg v1))) (grM M v0 1) (Int32.toNatClampNeg v2)) + (giM (siM M (grM M v0 0) (Int32.toNatClampNeg v2) (giM M (grM M v0 0) (Int32.toNatClampNeg v1))) (grM M v0 1) (Int32.toNatClampNeg v1)))) (grM M v0 0) (Int32.toNatClampNeg v1) ((-1))) (grM M v0 1) (Int32.toNatClampNeg v1) 0)
def BC_moveAhead_97 (v0 : Nat) (v1 : Int32) (v2 : Int32) (v3 : Int32) (M : Mem) : Option (Mem) :=
  if v3 = ((-1)) then (BC_moveAhead_114 v0 v1 v2 M) else (gd (obM M v0 0 4) <| gd (decide (grM M v0 2 ≠ 0)) <| gd (decide (grM M v0 0 ≠ 0)) <| gd (rdI M (grM M v0 0) v2) <| gd (wrI M (grM M v0 2) v3) <| BC_moveAhead_114 v0 v1 v2 (siM M (grM M v0 2) (Int32.toNatClampNeg v3) (giM M (grM M v0 0) (Int32.toNatClampNeg v2))))
def BC_moveAhead_55 (K : Nat → Int32 → Int32 → Int32 → Int32 → Int32 → Mem → Option ((Int32 × Mem))) (v0 : Nat) (v1 : Int32) (v2 : Int32) (v3 : Int32) (v4 : Int32) (v5 : Int32) (M : Mem) : Option ((Int32 × Mem)) :=
  gd (obM M v0 0 4) <| gd (decide (grM M v0 2 ≠ 0)) <| gd (lnI M (grM M v0 2)) <| if (Int32.ofNat (tgM M (grM M v0 2)).2) ≤ v4 then (some (v3, M)) else (if v5 = ((-1)) then (some (v3, M)) else (gd (decide (grM M v0 3 ≠ 0)) <| gd (wrI M (grM M v0 3) v5) <| gd (rdI M (grM M v0 2) v5) <| K v0 v1 v2 v5 (v4 + 1) (giM (siM M (grM M v0 3) (Int32.toNatClampNeg v5) v2) (grM M v0 2) (Int32.toNatClampNeg v5)) (siM M (grM M v0 3) (Int32.toNatClampNeg v5) v2)))
def LC_moveAhead_55 : Nat → Nat → Int32 → Int32 → Int32 → Int32 → Int32 → Mem → Option ((Int32 × Mem))
  | 0 => fun _ _ _ _ _ _ _ => none
  | f + 1 => BC_moveAhead_55 (LC_moveAhead_55 f)
def BC_moveAhead_41 (M : Mem) : Option (Mem) :=
  some M
def fC_moveAhead (v0 : Nat) (v1 : Int32) (v2 : Int32) (M : Mem) : Option (Mem) :=
  if v1 < 0 then (BC_moveAhead_41  M) else (gd (obM M v0 0 4) <| gd (decide (grM M v0 0 ≠ 0)) <| gd (lnI M (grM M v0 0)) <| if (Int32.ofNat (tgM M (grM M v0 0)).2) ≤ v1 then (BC_moveAhead_41  M) else (if v2 < 0 then (BC_moveAhead_41  M) else (if (Int32.ofNat (tgM M (grM M v0 0)).2) ≤ v2 then (BC_moveAhead_41  M) else (if v1 = v2 then (BC_moveAhead_41  M) else (gd (rdI M (grM M v0 0) v1) <| if (giM M (grM M v0 0) (Int32.toNatClampNeg v1)) = ((-1)) then (BC_moveAhead_41  M) else ((LC_moveAhead_55 1000000 v0 v1 v2 ((-1)) 0 (giM M (grM M v0 0) (Int32.toNatClampNeg v1)) M).bind (fun y6 => BC_moveAhead_97 v0 v1 v2 y6.1 y6.2)))))))
def BH_takeReady_46 (v0 : Nat) (v2 : Int32) (M : Mem) : Option (Int32 × Mem) :=
  gd (obM M v0 1 9) <| gd (decide (grM M v0 5 ≠ 0)) <| gd (obM M (grM M v0 5) 0 4) <| (fC_pop (grM M v0 5) v2 M).bind fun q3 => gd (obM q3.2 v0 1 9) <| (fH_ownNumber v0 q3.1 q3.2).bind fun q5 => some (q5.1, q5.2)
def BH_takeReady_39 (v0 : Nat) (v2 : Int32) (w0 : Nat) (w1 : Nat) (w2 : Int32) (w3 : Int32) (M : Mem) : Option (Int32 × Mem) :=
  gd (obM M w1 1 9) <| (fH_listOf w1 w2 w3 M).bind fun q1 => gd (obM q1.2 w0 0 4) <| (fC_moveAhead w0 q1.1 v2 q1.2).bind fun q3 => BH_takeReady_46 v0 v2 q3
def fH_takeReady (v0 : Nat) (v1 : Int32) (M : Mem) : Option (Int32 × Mem) :=
  gd (obM M v0 1 9) <| (fH_listOf v0 v1 0 M).bind fun q1 => gd (obM q1.2 v0 1 9) <| gd (decide (grM q1.2 v0 5 ≠ 0)) <| gd (obM q1.2 (grM q1.2 v0 5) 0 4) <| gd (decide (grM q1.2 (grM q1.2 v0 5) 1 ≠ 0)) <| gd (rdI q1.2 (grM q1.2 (grM q1.2 v0 5) 1) q1.1) <| if (giM q1.2 (grM q1.2 (grM q1.2 v0 5) 1) (Int32.toNatClampNeg q1.1)) = 0 then ((fH_lengthOf v0 v1 1 q1.2).bind fun q8 => if q8.1 ≤ 0 then (BH_takeReady_39 v0 q1.1 (grM q1.2 v0 5) v0 v1 2 q8.2) else (BH_takeReady_39 v0 q1.1 (grM q1.2 v0 5) v0 v1 1 q8.2)) else (BH_takeReady_46 v0 q1.1 q1.2)
def BK_floorMod_18 (v2 : Int32) (M : Mem) : Option (Int32 × Mem) :=
  some (v2, M)
def fK_floorMod (v0 : Int32) (v1 : Int32) (M : Mem) : Option (Int32 × Mem) :=
  gd (decide (¬ v1 = 0)) <| if 0 ≤ (v0 ^^^ v1) then (BK_floorMod_18 (v0 - v0 / v1 * v1) M) else (if (v0 - v0 / v1 * v1) = 0 then (BK_floorMod_18 (v0 - v0 / v1 * v1) M) else (some ((v0 - v0 / v1 * v1) + v1, M)))
def fL_note (v0 : Nat) (v1 : Int32) (v2 : Int32) (v3 : Int32) (M : Mem) : Option (Mem) :=
  gd (obM M v0 2 2) <| gd (decide (grM M v0 0 ≠ 0)) <| (fK_floorMod (giM M v0 1) 60 M).bind fun q3 => gd (wrI q3.2 (grM M v0 0) q3.1) <| gd (obM q3.2 v0 2 2) <| some (siM (siM q3.2 (grM M v0 0) (Int32.toNatClampNeg q3.1) ((((v1 * 10) + v2) * 10) + v3)) v0 1 ((giM (siM q3.2 (grM M v0 0) (Int32.toNatClampNeg q3.1) ((((v1 * 10) + v2) * 10) + v3)) v0 1) + 1))
def BH_vacate_4 (K : Nat → Int32 → Int32 → Mem → Option ((Mem))) (v0 : Nat) (v1 : Int32) (v2 : Int32) (M : Mem) : Option ((Mem)) :=
  if ((v1 + 1) * 3) ≤ v2 then (gd (obM M v0 1 9) <| gd (decide (grM M v0 1 ≠ 0)) <| gd (wrI M (grM M v0 1) v1) <| gd (decide (grM M v0 2 ≠ 0)) <| gd (wrI M (grM M v0 2) v1) <| gd (decide (grM M v0 3 ≠ 0)) <| gd (wrI M (grM M v0 3) v1) <| some (siM (siM (siM M (grM M v0 1) (Int32.toNatClampNeg v1) ((-1))) (grM M v0 2) (Int32.toNatClampNeg v1) ((-1))) (grM M v0 3) (Int32.toNatClampNeg v1) 0)) else (gd (obM M v0 1 9) <| gd (decide (grM M v0 5 ≠ 0)) <| gd (obM M (grM M v0 5) 0 4) <| gd (decide (grM M (grM M v0 5) 0 ≠ 0)) <| gd (wrI M (grM M (grM M v0 5) 0) v2) <| gd (decide (grM M (grM M v0 5) 1 ≠ 0)) <| gd (wrI M (grM M (grM M v0 5) 1) v2) <| K v0 v1 (v2 + 1) (siM (siM M (grM M (grM M v0 5) 0) (Int32.toNatClampNeg v2) ((-1))) (grM M (grM M v0 5) 1) (Int32.toNatClampNeg v2) 0))
def LH_vacate_4 : Nat → Nat → Int32 → Int32 → Mem → Option ((Mem))
  | 0 => fun _ _ _ _ => none
  | f + 1 => BH_vacate_4 (LH_vacate_4 f)
def fH_vacate (v0 : Nat) (v1 : Int32) (M : Mem) : Option (Mem) :=
  (LH_vacate_4 1000000 v0 v1 (v1 * 3) M).bind (fun r2 => some r2)
def BH_goHome_62 (v4 : Int32) (M : Mem) : Option (Int32 × Mem) :=
  some (v4, M)
def fH_goHome (v0 : Nat) (v1 : Int32) (v2 : Int32) (M : Mem) : Option (Int32 × Mem) :=
  gd (obM M v0 1 9) <| (fH_outboxOf v0 v1 v2 M).bind fun q1 => gd (obM q1.2 v0 1 9) <| gd (decide (grM q1.2 v0 5 ≠ 0)) <| gd (obM q1.2 (grM q1.2 v0 5) 0 4) <| gd (decide (grM q1.2 (grM q1.2 v0 5) 1 ≠ 0)) <| gd (rdI q1.2 (grM q1.2 (grM q1.2 v0 5) 1) q1.1) <| if (giM q1.2 (grM q1.2 (grM q1.2 v0 5) 1) (Int32.toNatClampNeg q1.1)) = 0 then (some (0, q1.2)) else ((fH_listOf v0 v2 2 q1.2).bind fun q8 => gd (obM q8.2 (grM q1.2 v0 5) 0 4) <| (fC_moveAhead (grM q1.2 v0 5) q1.1 q8.1 q8.2).bind fun q9 => gd (obM q9 v0 1 9) <| gd (decide (grM q9 v0 2 ≠ 0)) <| gd (rdI q9 (grM q9 v0 2) v2) <| if (giM q9 (grM q9 v0 2) (Int32.toNatClampNeg v2)) = ((-1)) then ((fH_usedOf v0 v2 q9).bind fun q14 => if q14.1 = 0 then (gd (obM q14.2 v0 1 9) <| (fH_vacate v0 v2 q14.2).bind fun q15 => BH_goHome_62 (giM q1.2 (grM q1.2 (grM q1.2 v0 5) 1) (Int32.toNatClampNeg q1.1)) q15) else (BH_goHome_62 (giM q1.2 (grM q1.2 (grM q1.2 v0 5) 1) (Int32.toNatClampNeg q1.1)) q14.2)) else (BH_goHome_62 (giM q1.2 (grM q1.2 (grM q1.2 v0 5) 1) (Int32.toNatClampNeg q1.1)) q9))
def BH_queueFullAgain_83 (K : Nat → Int32 → Int32 → Mem → Option ((Mem))) (v0 : Nat) (v1 : Int32) (v2 : Int32) (M : Mem) : Option ((Mem)) :=
  K v0 v1 (v2 + 1) M
def BH_queueFullAgain_43 (K : Nat → Int32 → Int32 → Mem → Option ((Mem))) (v0 : Nat) (v1 : Int32) (v2 : Int32) (w0 : Int32) (M : Mem) : Option ((Mem)) :=
  if w0 = 0 then (BH_queueFullAgain_83 K v0 v1 v2 M) else (gd (obM M v0 1 9) <| (fH_lengthOf v0 v2 1 M).bind fun q1 => gd (obM q1.2 v0 1 9) <| (fH_lengthOf v0 v2 2 q1.2).bind fun q3 => if (q1.1 + q3.1) ≤ 0 then (BH_queueFullAgain_83 K v0 v1 v2 q3.2) else (gd (obM q3.2 v0 1 9) <| gd (decide (grM q3.2 v0 4 ≠ 0)) <| gd (decide (grM q3.2 v0 1 ≠ 0)) <| gd (rdI q3.2 (grM q3.2 v0 1) v2) <| (fH_queueOf v0 v1 (giM q3.2 (grM q3.2 v0 1) (Int32.toNatClampNeg v2)) q3.2).bind fun q9 => gd (obM q9.2 (grM q3.2 v0 4) 0 4) <| (fC_append (grM q3.2 v0 4) q9.1 v2 q9.2).bind fun q10 => BH_queueFullAgain_83 K v0 v1 v2 q10))
def BH_queueFullAgain_42 (K : Nat → Int32 → Int32 → Mem → Option ((Mem))) (v0 : Nat) (v1 : Int32) (v2 : Int32) (M : Mem) : Option ((Mem)) :=
  BH_queueFullAgain_43 K v0 v1 v2 0 M
def BH_queueFullAgain_2 (K : Nat → Int32 → Int32 → Mem → Option ((Mem))) (v0 : Nat) (v1 : Int32) (v2 : Int32) (M : Mem) : Option ((Mem)) :=
  gd (obM M v0 1 9) <| gd (decide (grM M v0 0 ≠ 0)) <| gd (obM M (grM M v0 0) 7 3) <| gd (decide (grM M (grM M v0 0) 0 ≠ 0)) <| gd (rdI M (grM M (grM M v0 0) 0) 1) <| if (giM M (grM M (grM M v0 0) 0) (Int32.toNatClampNeg 1)) ≤ v2 then (some M) else (gd (decide (grM M v0 2 ≠ 0)) <| gd (rdI M (grM M v0 2) v2) <| if (giM M (grM M v0 2) (Int32.toNatClampNeg v2)) = v1 then (gd (decide (grM M v0 4 ≠ 0)) <| gd (obM M (grM M v0 4) 0 4) <| gd (decide (grM M (grM M v0 4) 3 ≠ 0)) <| gd (rdI M (grM M (grM M v0 4) 3) v2) <| if (giM M (grM M (grM M v0 4) 3) (Int32.toNatClampNeg v2)) = ((-1)) then (BH_queueFullAgain_43 K v0 v1 v2 1 M) else (BH_queueFullAgain_42 K v0 v1 v2 M)) else (BH_queueFullAgain_42 K v0 v1 v2 M))
def LH_queueFullAgain_2 : Nat → Nat → Int32 → Int32 → Mem → Option ((Mem))
  | 0 => fun _ _ _ _ => none
  | f + 1 => BH_queueFullAgain_2 (LH_queueFullAgain_2 f)
def fH_queueFullAgain (v0 : Nat) (v1 : Int32) (M : Mem) : Option (Mem) :=
  (LH_queueFullAgain_2 1000000 v0 v1 0 M).bind (fun r2 => some r2)
def BC_drop_116 (v0 : Nat) (v1 : Int32) (v2 : Int32) (M : Mem) : Option (Mem) :=
  gd (obM M v0 0 4) <| gd (decide (grM M v0 2 ≠ 0)) <| gd (wrI M (grM M v0 2) v1) <| gd (decide (grM M v0 3 ≠ 0)) <| gd (wrI M (grM M v0 3) v1) <| gd (decide (grM M v0 1 ≠ 0)) <| gd (rdI M (grM M v0 1) v2) <| gd (wrI M (grM M v0 1) v2) <| some (siM (siM (siM M (grM M v0 2) (Int32.toNatClampNeg v1) ((-1))) (grM M v0 3) (Int32.toNatClampNeg v1) ((-1))) (grM M v0 1) (Int32.toNatClampNeg v2) ((giM (siM (siM M (grM M v0 2) (Int32.toNatClampNeg v1) ((-1))) (grM M v0 3) (Int32.toNatClampNeg v1) ((-1))) (grM M v0 1) (Int32.toNatClampNeg v2)) - 1))
def BC_drop_84 (v0 : Nat) (v1 : Int32) (v2 : Int32) (v3 : Int32) (M : Mem) : Option (Mem) :=
  if v3 = ((-1)) then (gd (obM M v0 0 4) <| gd (decide (grM M v0 0 ≠ 0)) <| gd (decide (grM M v0 2 ≠ 0)) <| gd (rdI M (grM M v0 2) v1) <| gd (wrI M (grM M v0 0) v2) <| BC_drop_116 v0 v1 v2 (siM M (grM M v0 0) (Int32.toNatClampNeg v2) (giM M (grM M v0 2) (Int32.toNatClampNeg v1)))) else (gd (obM M v0 0 4) <| gd (decide (grM M v0 2 ≠ 0)) <| gd (rdI M (grM M v0 2) v1) <| gd (wrI M (grM M v0 2) v3) <| BC_drop_116 v0 v1 v2 (siM M (grM M v0 2) (Int32.toNatClampNeg v3) (giM M (grM M v0 2) (Int32.toNatClampNeg v1))))
def BC_drop_44 (K : Nat → Int32 → Int32 → Int32 → Int32 → Int32 → Mem → Option ((Int32 × Mem))) (v0 : Nat) (v1 : Int32) (v2 : Int32) (v3 : Int32) (v4 : Int32) (v5 : Int32) (M : Mem) : Option ((Int32 × Mem)) :=
  gd (obM M v0 0 4) <| gd (decide (grM M v0 2 ≠ 0)) <| gd (lnI M (grM M v0 2)) <| if (Int32.ofNat (tgM M (grM M v0 2)).2) ≤ v4 then (some (v3, M)) else (if v5 = ((-1)) then (some (v3, M)) else (if v5 = v1 then (some (v3, M)) else (gd (rdI M (grM M v0 2) v5) <| K v0 v1 v2 v5 (v4 + 1) (giM M (grM M v0 2) (Int32.toNatClampNeg v5)) M)))
def LC_drop_44 : Nat → Nat → Int32 → Int32 → Int32 → Int32 → Int32 → Mem → Option ((Int32 × Mem))
  | 0 => fun _ _ _ _ _ _ _ => none
  | f + 1 => BC_drop_44 (LC_drop_44 f)
def BC_drop_23 (M : Mem) : Option (Mem) :=
  some M
def fC_drop (v0 : Nat) (v1 : Int32) (M : Mem) : Option (Mem) :=
  if v1 < 0 then (BC_drop_23  M) else (gd (obM M v0 0 4) <| gd (decide (grM M v0 2 ≠ 0)) <| gd (lnI M (grM M v0 2)) <| if (Int32.ofNat (tgM M (grM M v0 2)).2) ≤ v1 then (BC_drop_23  M) else (gd (decide (grM M v0 3 ≠ 0)) <| gd (rdI M (grM M v0 3) v1) <| if (giM M (grM M v0 3) (Int32.toNatClampNeg v1)) = ((-1)) then (BC_drop_23  M) else (gd (decide (grM M v0 0 ≠ 0)) <| gd (rdI M (grM M v0 0) (giM M (grM M v0 3) (Int32.toNatClampNeg v1))) <| (LC_drop_44 1000000 v0 v1 (giM M (grM M v0 3) (Int32.toNatClampNeg v1)) ((-1)) 0 (giM M (grM M v0 0) (Int32.toNatClampNeg (giM M (grM M v0 3) (Int32.toNatClampNeg v1)))) M).bind (fun y9 => BC_drop_84 v0 v1 (giM M (grM M v0 3) (Int32.toNatClampNeg v1)) y9.1 y9.2))))
def fH_makeEmpty (v0 : Nat) (v1 : Int32) (M : Mem) : Option (Mem) :=
  gd (obM M v0 1 9) <| gd (decide (grM M v0 4 ≠ 0)) <| gd (obM M (grM M v0 4) 0 4) <| (fC_drop (grM M v0 4) v1 M).bind fun q3 => gd (obM q3 v0 1 9) <| (fH_vacate v0 v1 q3).bind fun q5 => some q5
def BH_beat_99 (K : Nat → Int32 → Int32 → Mem → Option ((Mem))) (v0 : Nat) (v1 : Int32) (v2 : Int32) (M : Mem) : Option ((Mem)) :=
  K v0 v1 (v2 + 1) M
def BH_beat_35 (K : Nat → Int32 → Int32 → Mem → Option ((Mem))) (v0 : Nat) (v1 : Int32) (v2 : Int32) (M : Mem) : Option ((Mem)) :=
  gd (obM M v0 1 9) <| gd (decide (grM M v0 0 ≠ 0)) <| gd (obM M (grM M v0 0) 7 3) <| gd (decide (grM M (grM M v0 0) 0 ≠ 0)) <| gd (rdI M (grM M (grM M v0 0) 0) 1) <| if (giM M (grM M (grM M v0 0) 0) (Int32.toNatClampNeg 1)) ≤ v2 then (some M) else (gd (decide (grM M v0 4 ≠ 0)) <| gd (obM M (grM M v0 4) 0 4) <| gd (decide (grM M (grM M v0 4) 3 ≠ 0)) <| gd (rdI M (grM M (grM M v0 4) 3) v2) <| gd (decide (grM M v0 2 ≠ 0)) <| gd (rdI M (grM M v0 2) v2) <| if (giM M (grM M v0 2) (Int32.toNatClampNeg v2)) = v1 then (if (giM M (grM M (grM M v0 4) 3) (Int32.toNatClampNeg v2)) = ((-1)) then (BH_beat_99 K v0 v1 v2 M) else ((fH_usedOf v0 v2 M).bind fun q12 => if q12.1 = 0 then (gd (obM q12.2 v0 1 9) <| gd (decide (grM q12.2 v0 4 ≠ 0)) <| gd (obM q12.2 (grM q12.2 v0 4) 0 4) <| gd (decide (grM q12.2 (grM q12.2 v0 4) 1 ≠ 0)) <| gd (rdI q12.2 (grM q12.2 (grM q12.2 v0 4) 1) (giM M (grM M (grM M v0 4) 3) (Int32.toNatClampNeg v2))) <| if (giM q12.2 (grM q12.2 (grM q12.2 v0 4) 1) (Int32.toNatClampNeg (giM M (grM M (grM M v0 4) 3) (Int32.toNatClampNeg v2)))) ≤ 1 then (BH_beat_99 K v0 v1 v2 q12.2) else ((fH_makeEmpty v0 v2 q12.2).bind fun q18 => BH_beat_99 K v0 v1 v2 q18)) else (BH_beat_99 K v0 v1 v2 q12.2))) else (BH_beat_99 K v0 v1 v2 M))
def LH_beat_35 : Nat → Nat → Int32 → Int32 → Mem → Option ((Mem))
  | 0 => fun _ _ _ _ => none
  | f + 1 => BH_beat_35 (LH_beat_35 f)
def BH_beat_2 (K : Nat → Int32 → Int32 → Mem → Option ((Mem))) (v0 : Nat) (v1 : Int32) (v2 : Int32) (M : Mem) : Option ((Mem)) :=
  gd (obM M v0 1 9) <| gd (decide (grM M v0 0 ≠ 0)) <| gd (obM M (grM M v0 0) 7 3) <| gd (decide (grM M (grM M v0 0) 0 ≠ 0)) <| gd (rdI M (grM M (grM M v0 0) 0) 1) <| if (giM M (grM M (grM M v0 0) 0) (Int32.toNatClampNeg 1)) ≤ v2 then (some M) else ((fH_goHome v0 v1 v2 M).bind fun q6 => K v0 v1 (v2 + 1) q6.2)
def LH_beat_2 : Nat → Nat → Int32 → Int32 → Mem → Option ((Mem))
  | 0 => fun _ _ _ _ => none
  | f + 1 => BH_beat_2 (LH_beat_2 f)
def fH_beat (v0 : Nat) (v1 : Int32) (M : Mem) : Option (Mem) :=
  (LH_beat_2 1000000 v0 v1 0 M).bind (fun y2 => gd (obM y2 v0 1 9) <| (fH_queueFullAgain v0 v1 y2).bind fun q3 => (LH_beat_35 1000000 v0 v1 0 q3).bind (fun r6 => some r6))
def BH_takeBlock_128 (v6 : Int32) (M : Mem) : Option (Int32 × Mem) :=
  some (v6, M)
def BH_takeBlock_32 (v0 : Nat) (v1 : Int32) (v3 : Int32) (w0 : Int32) (M : Mem) : Option (Int32 × Mem) :=
  if w0 = ((-1)) then (some ((-1), M)) else (gd (obM M v0 1 9) <| (fH_howFrom v0 v1 w0 M).bind fun q1 => gd (obM q1.2 v0 1 9) <| (fH_bringToFront v0 v1 v3 w0 q1.2).bind fun q3 => gd (obM q3 v0 1 9) <| (fH_takeReady v0 w0 q3).bind fun q5 => gd (obM q5.2 v0 1 9) <| gd (decide (grM q5.2 v0 7 ≠ 0)) <| gd (rdI q5.2 (grM q5.2 v0 7) v1) <| gd (wrI q5.2 (grM q5.2 v0 7) v1) <| gd (decide (grM q5.2 v0 8 ≠ 0)) <| gd (obM q5.2 (grM q5.2 v0 8) 2 2) <| (fL_note (grM q5.2 v0 8) ((w0 * 100) + q5.1) v1 q1.1 (siM q5.2 (grM q5.2 v0 7) (Int32.toNatClampNeg v1) ((giM q5.2 (grM q5.2 v0 7) (Int32.toNatClampNeg v1)) + 1))).bind fun q12 => gd (obM q12 v0 1 9) <| gd (decide (grM q12 v0 0 ≠ 0)) <| gd (obM q12 (grM q12 v0 0) 7 3) <| gd (decide (grM q12 (grM q12 v0 0) 0 ≠ 0)) <| gd (rdI q12 (grM q12 (grM q12 v0 0) 0) 4) <| if (giM q12 (grM q12 (grM q12 v0 0) 0) (Int32.toNatClampNeg 4)) ≤ 0 then (BH_takeBlock_128 ((w0 * 100) + q5.1) q12) else (gd (decide (grM q12 v0 7 ≠ 0)) <| gd (rdI q12 (grM q12 v0 7) v1) <| gd (decide (¬ (giM q12 (grM q12 (grM q12 v0 0) 0) (Int32.toNatClampNeg 4)) = 0)) <| if ((giM q12 (grM q12 v0 7) (Int32.toNatClampNeg v1)) - (giM q12 (grM q12 v0 7) (Int32.toNatClampNeg v1)) / (giM q12 (grM q12 (grM q12 v0 0) 0) (Int32.toNatClampNeg 4)) * (giM q12 (grM q12 (grM q12 v0 0) 0) (Int32.toNatClampNeg 4))) = 0 then ((fH_beat v0 v1 q12).bind fun q22 => BH_takeBlock_128 ((w0 * 100) + q5.1) q22) else (BH_takeBlock_128 ((w0 * 100) + q5.1) q12)))
def BH_takeBlock_22 (v0 : Nat) (v1 : Int32) (v3 : Int32) (M : Mem) : Option (Int32 × Mem) :=
  BH_takeBlock_32 v0 v1 v3 ((-1)) M
def fH_takeBlock (v0 : Nat) (v1 : Int32) (v2 : Int32) (M : Mem) : Option (Int32 × Mem) :=
  gd (obM M v0 1 9) <| gd (decide (grM M v0 0 ≠ 0)) <| gd (obM M (grM M v0 0) 7 3) <| (fU_kindFor (grM M v0 0) v2 M).bind fun q3 => if q3.1 = ((-1)) then (BH_takeBlock_22 v0 v1 q3.1 q3.2) else (gd (obM q3.2 v0 1 9) <| (fH_isLiving v0 v1 q3.2).bind fun q5 => if q5.1 = 0 then (BH_takeBlock_22 v0 v1 q3.1 q5.2) else (gd (obM q5.2 v0 1 9) <| (fH_pageFor v0 v1 q3.1 q5.2).bind fun q7 => BH_takeBlock_32 v0 v1 q3.1 q7.1 q7.2))
def fA_get (v0 : Nat) (v1 : Int32) (v2 : Int32) (M : Mem) : Option (Int32 × Mem) :=
  gd (obM M v0 10 15) <| gd (decide (grM M v0 7 ≠ 0)) <| gd (obM M (grM M v0 7) 1 9) <| (fH_isThread (grM M v0 7) v1 M).bind fun q3 => if q3.1 = 0 then (gd (obM q3.2 v0 10 15) <| (fA_refuse v0 0 q3.2).bind fun q32 => some (q32.1, q32.2)) else (gd (obM q3.2 v0 10 15) <| gd (decide (grM q3.2 v0 2 ≠ 0)) <| gd (obM q3.2 (grM q3.2 v0 2) 7 3) <| (fU_kindFor (grM q3.2 v0 2) v2 q3.2).bind fun q7 => if q7.1 = ((-1)) then (gd (obM q7.2 v0 10 15) <| (fA_refuse v0 1 q7.2).bind fun q30 => some (q30.1, q30.2)) else (gd (obM q7.2 v0 10 15) <| gd (decide (grM q7.2 v0 7 ≠ 0)) <| gd (obM q7.2 (grM q7.2 v0 7) 1 9) <| (fH_isLiving (grM q7.2 v0 7) v1 q7.2).bind fun q11 => if q11.1 = 0 then (gd (obM q11.2 v0 10 15) <| (fA_refuse v0 2 q11.2).bind fun q28 => some (q28.1, q28.2)) else (gd (obM q11.2 v0 10 15) <| gd (decide (grM q11.2 v0 7 ≠ 0)) <| gd (obM q11.2 (grM q11.2 v0 7) 1 9) <| (fH_pageFor (grM q11.2 v0 7) v1 q7.1 q11.2).bind fun q15 => if q15.1 = ((-1)) then (gd (obM q15.2 v0 10 15) <| (fA_refuse v0 3 q15.2).bind fun q26 => some (q26.1, q26.2)) else (gd (obM q15.2 v0 10 15) <| gd (decide (grM q15.2 v0 8 ≠ 0)) <| gd (decide (grM q15.2 v0 7 ≠ 0)) <| gd (obM q15.2 (grM q15.2 v0 8) 4 3) <| (fP_keep (grM q15.2 v0 8) (grM q15.2 v0 7) q15.2).bind fun q20 => gd (obM q20 v0 10 15) <| gd (decide (grM q20 v0 7 ≠ 0)) <| gd (obM q20 (grM q20 v0 7) 1 9) <| (fH_takeBlock (grM q20 v0 7) v1 v2 q20).bind fun q24 => some (q24.1, q24.2)))))
def BH_giveBlock_185 (M : Mem) : Option (Int32 × Mem) :=
  some (0, M)
def BH_giveBlock_158 (v0 : Nat) (v3 : Int32) (v4 : Int32) (M : Mem) : Option (Int32 × Mem) :=
  gd (obM M v0 1 9) <| (fH_usedOf v0 v3 M).bind fun q1 => if q1.1 = 0 then (gd (obM q1.2 v0 1 9) <| gd (decide (grM q1.2 v0 4 ≠ 0)) <| gd (obM q1.2 (grM q1.2 v0 4) 0 4) <| gd (decide (grM q1.2 (grM q1.2 v0 4) 1 ≠ 0)) <| gd (rdI q1.2 (grM q1.2 (grM q1.2 v0 4) 1) v4) <| if (giM q1.2 (grM q1.2 (grM q1.2 v0 4) 1) (Int32.toNatClampNeg v4)) ≤ 1 then (BH_giveBlock_185  q1.2) else ((fH_makeEmpty v0 v3 q1.2).bind fun q8 => BH_giveBlock_185  q8)) else (BH_giveBlock_185  q1.2)
def BH_giveBlock_103 (w0 : Int32) (M : Mem) : Option (Int32 × Mem) :=
  some (w0, M)
def BH_giveBlock_102 (M : Mem) : Option (Int32 × Mem) :=
  BH_giveBlock_103 1 M
def BH_giveBlock_82 (v0 : Nat) (v1 : Int32) (v3 : Int32) (w0 : Int32) (M : Mem) : Option (Int32 × Mem) :=
  if w0 = 0 then (BH_giveBlock_102  M) else (gd (obM M v0 1 9) <| (fH_goHome v0 v1 v3 M).bind fun q1 => if q1.1 ≤ 0 then (BH_giveBlock_102  q1.2) else (BH_giveBlock_103 2 q1.2))
def BH_giveBlock_16 (M : Mem) : Option (Int32 × Mem) :=
  some ((-1), M)
def fH_giveBlock (v0 : Nat) (v1 : Int32) (v2 : Int32) (M : Mem) : Option (Int32 × Mem) :=
  gd (obM M v0 1 9) <| (fH_isLiving v0 v1 M).bind fun q1 => if q1.1 = 0 then (BH_giveBlock_16  q1.2) else (gd (obM q1.2 v0 1 9) <| (fH_isHeld v0 v2 q1.2).bind fun q3 => if q3.1 = 0 then (BH_giveBlock_16  q3.2) else (gd (obM q3.2 v0 1 9) <| gd (decide (grM q3.2 v0 2 ≠ 0)) <| gd (rdI q3.2 (grM q3.2 v0 2) (v2 / 100)) <| if (giM q3.2 (grM q3.2 v0 2) (Int32.toNatClampNeg (v2 / 100))) = v1 then (gd (decide (grM q3.2 v0 5 ≠ 0)) <| (fH_listOf v0 (v2 / 100) 1 q3.2).bind fun q9 => gd (obM q9.2 v0 1 9) <| (fH_thingOf v0 v2 q9.2).bind fun q10 => gd (obM q10.2 (grM q3.2 v0 5) 0 4) <| (fC_push (grM q3.2 v0 5) q9.1 q10.1 q10.2).bind fun q12 => gd (obM q12 v0 1 9) <| gd (decide (grM q12 v0 1 ≠ 0)) <| gd (rdI q12 (grM q12 v0 1) (v2 / 100)) <| (fH_queueOf v0 v1 (giM q12 (grM q12 v0 1) (Int32.toNatClampNeg (v2 / 100))) q12).bind fun q17 => gd (obM q17.2 v0 1 9) <| gd (decide (grM q17.2 v0 4 ≠ 0)) <| gd (obM q17.2 (grM q17.2 v0 4) 0 4) <| gd (decide (grM q17.2 (grM q17.2 v0 4) 3 ≠ 0)) <| gd (rdI q17.2 (grM q17.2 (grM q17.2 v0 4) 3) (v2 / 100)) <| if (giM q17.2 (grM q17.2 (grM q17.2 v0 4) 3) (Int32.toNatClampNeg (v2 / 100))) = ((-1)) then ((fC_append (grM q17.2 v0 4) q17.1 (v2 / 100) q17.2).bind fun q23 => BH_giveBlock_158 v0 (v2 / 100) q17.1 q23) else (BH_giveBlock_158 v0 (v2 / 100) q17.1 q17.2)) else ((fH_outboxOf v0 v1 (v2 / 100) q3.2).bind fun q24 => gd (obM q24.2 v0 1 9) <| gd (decide (grM q24.2 v0 5 ≠ 0)) <| (fH_thingOf v0 v2 q24.2).bind fun q27 => gd (obM q27.2 (grM q24.2 v0 5) 0 4) <| (fC_push (grM q24.2 v0 5) q24.1 q27.1 q27.2).bind fun q28 => gd (obM q28 v0 1 9) <| gd (decide (grM q28 v0 5 ≠ 0)) <| gd (obM q28 (grM q28 v0 5) 0 4) <| gd (decide (grM q28 (grM q28 v0 5) 1 ≠ 0)) <| gd (rdI q28 (grM q28 (grM q28 v0 5) 1) q24.1) <| gd (decide (grM q28 v0 0 ≠ 0)) <| gd (obM q28 (grM q28 v0 0) 7 3) <| gd (decide (grM q28 (grM q28 v0 0) 0 ≠ 0)) <| gd (rdI q28 (grM q28 (grM q28 v0 0) 0) 3) <| if (giM q28 (grM q28 (grM q28 v0 5) 1) (Int32.toNatClampNeg q24.1)) < (giM q28 (grM q28 (grM q28 v0 0) 0) (Int32.toNatClampNeg 3)) then (BH_giveBlock_82 v0 v1 (v2 / 100) 0 q28) else (BH_giveBlock_82 v0 v1 (v2 / 100) 1 q28))))
def BA_free_50 (v0 : Nat) (M : Mem) : Option (Int32 × Mem) :=
  gd (obM M v0 10 15) <| (fA_refuse v0 2 M).bind fun q1 => some (q1.1, q1.2)
def BA_free_22 (v0 : Nat) (M : Mem) : Option (Int32 × Mem) :=
  gd (obM M v0 10 15) <| (fA_refuse v0 0 M).bind fun q1 => some (q1.1, q1.2)
def fA_free (v0 : Nat) (v1 : Int32) (v2 : Int32) (M : Mem) : Option (Int32 × Mem) :=
  gd (obM M v0 10 15) <| gd (decide (grM M v0 7 ≠ 0)) <| gd (obM M (grM M v0 7) 1 9) <| (fH_isThread (grM M v0 7) v1 M).bind fun q3 => if q3.1 = 0 then (BA_free_22 v0 q3.2) else (gd (obM q3.2 v0 10 15) <| gd (decide (grM q3.2 v0 7 ≠ 0)) <| gd (obM q3.2 (grM q3.2 v0 7) 1 9) <| (fH_isBlock (grM q3.2 v0 7) v2 q3.2).bind fun q7 => if q7.1 = 0 then (BA_free_22 v0 q7.2) else (gd (obM q7.2 v0 10 15) <| gd (decide (grM q7.2 v0 7 ≠ 0)) <| gd (obM q7.2 (grM q7.2 v0 7) 1 9) <| (fH_isLiving (grM q7.2 v0 7) v1 q7.2).bind fun q11 => if q11.1 = 0 then (BA_free_50 v0 q11.2) else (gd (obM q11.2 v0 10 15) <| gd (decide (grM q11.2 v0 7 ≠ 0)) <| gd (obM q11.2 (grM q11.2 v0 7) 1 9) <| (fH_isHeld (grM q11.2 v0 7) v2 q11.2).bind fun q15 => if q15.1 = 0 then (BA_free_50 v0 q15.2) else (gd (obM q15.2 v0 10 15) <| gd (decide (grM q15.2 v0 8 ≠ 0)) <| gd (decide (grM q15.2 v0 7 ≠ 0)) <| gd (obM q15.2 (grM q15.2 v0 8) 4 3) <| (fP_keep (grM q15.2 v0 8) (grM q15.2 v0 7) q15.2).bind fun q20 => gd (obM q20 v0 10 15) <| gd (decide (grM q20 v0 7 ≠ 0)) <| gd (obM q20 (grM q20 v0 7) 1 9) <| (fH_giveBlock (grM q20 v0 7) v1 v2 q20).bind fun q24 => some (q24.1, q24.2)))))
def fA_isIdle (v0 : Nat) (v1 : Int32) (M : Mem) : Option (Int32 × Mem) :=
  gd (obM M v0 10 15) <| gd (decide (grM M v0 7 ≠ 0)) <| gd (obM M (grM M v0 7) 1 9) <| (fH_isThread (grM M v0 7) v1 M).bind fun q3 => if q3.1 = 0 then (gd (obM q3.2 v0 10 15) <| (fA_refuse v0 0 q3.2).bind fun q11 => some (1, q11.2)) else (gd (obM q3.2 v0 10 15) <| gd (decide (grM q3.2 v0 7 ≠ 0)) <| gd (obM q3.2 (grM q3.2 v0 7) 1 9) <| (fH_isLiving (grM q3.2 v0 7) v1 q3.2).bind fun q7 => if q7.1 = 0 then (gd (obM q7.2 v0 10 15) <| (fA_refuse v0 2 q7.2).bind fun q9 => some (1, q9.2)) else (some (0, q7.2)))
def fA_tick (v0 : Nat) (v1 : Int32) (M : Mem) : Option (Int32 × Mem) :=
  gd (obM M v0 10 15) <| (fA_isIdle v0 v1 M).bind fun q1 => if q1.1 = 0 then (gd (obM q1.2 v0 10 15) <| gd (decide (grM q1.2 v0 8 ≠ 0)) <| gd (decide (grM q1.2 v0 7 ≠ 0)) <| gd (obM q1.2 (grM q1.2 v0 8) 4 3) <| (fP_keep (grM q1.2 v0 8) (grM q1.2 v0 7) q1.2).bind fun q6 => gd (obM q6 v0 10 15) <| gd (decide (grM q6 v0 7 ≠ 0)) <| gd (obM q6 (grM q6 v0 7) 1 9) <| (fH_beat (grM q6 v0 7) v1 q6).bind fun q10 => gd (obM q10 v0 10 15) <| gd (decide (grM q10 v0 7 ≠ 0)) <| gd (obM q10 (grM q10 v0 7) 1 9) <| (fH_pagesOf (grM q10 v0 7) v1 q10).bind fun q14 => some (q14.1, q14.2)) else (some ((-1), q1.2))
def BH_sendAll_4 (K : Nat → Int32 → Int32 → Int32 → Mem → Option ((Int32 × Mem))) (v0 : Nat) (v1 : Int32) (v2 : Int32) (v3 : Int32) (M : Mem) : Option ((Int32 × Mem)) :=
  gd (obM M v0 1 9) <| gd (decide (grM M v0 0 ≠ 0)) <| gd (obM M (grM M v0 0) 7 3) <| gd (decide (grM M (grM M v0 0) 0 ≠ 0)) <| gd (rdI M (grM M (grM M v0 0) 0) 1) <| if (giM M (grM M (grM M v0 0) 0) (Int32.toNatClampNeg 1)) ≤ v3 then (some (v2, M)) else ((fH_goHome v0 v1 v3 M).bind fun q6 => K v0 v1 (v2 + q6.1) (v3 + 1) q6.2)
def LH_sendAll_4 : Nat → Nat → Int32 → Int32 → Int32 → Mem → Option ((Int32 × Mem))
  | 0 => fun _ _ _ _ _ => none
  | f + 1 => BH_sendAll_4 (LH_sendAll_4 f)
def fH_sendAll (v0 : Nat) (v1 : Int32) (M : Mem) : Option (Int32 × Mem) :=
  (LH_sendAll_4 1000000 v0 v1 0 0 M).bind (fun r2 => some r2)
def fA_send (v0 : Nat) (v1 : Int32) (M : Mem) : Option (Int32 × Mem) :=
  gd (obM M v0 10 15) <| (fA_isIdle v0 v1 M).bind fun q1 => if q1.1 = 0 then (gd (obM q1.2 v0 10 15) <| gd (decide (grM q1.2 v0 8 ≠ 0)) <| gd (decide (grM q1.2 v0 7 ≠ 0)) <| gd (obM q1.2 (grM q1.2 v0 8) 4 3) <| (fP_keep (grM q1.2 v0 8) (grM q1.2 v0 7) q1.2).bind fun q6 => gd (obM q6 v0 10 15) <| gd (decide (grM q6 v0 7 ≠ 0)) <| gd (obM q6 (grM q6 v0 7) 1 9) <| (fH_sendAll (grM q6 v0 7) v1 q6).bind fun q10 => some (q10.1, q10.2)) else (some ((-1), q1.2))
def BH_turnOver_88 (K : Nat → Int32 → Int32 → Mem → Option ((Mem))) (v0 : Nat) (v1 : Int32) (v2 : Int32) (M : Mem) : Option ((Mem)) :=
  K v0 v1 (v2 + 1) M
def BH_turnOver_63 (K : Nat → Int32 → Int32 → Mem → Option ((Mem))) (v0 : Nat) (v1 : Int32) (v2 : Int32) (M : Mem) : Option ((Mem)) :=
  gd (obM M v0 1 9) <| gd (decide (grM M v0 2 ≠ 0)) <| gd (rdI M (grM M v0 2) v2) <| if (giM M (grM M v0 2) (Int32.toNatClampNeg v2)) = v1 then (gd (decide (grM M v0 4 ≠ 0)) <| gd (obM M (grM M v0 4) 0 4) <| (fC_drop (grM M v0 4) v2 M).bind fun q5 => gd (obM q5 v0 1 9) <| gd (decide (grM q5 v0 2 ≠ 0)) <| gd (wrI q5 (grM q5 v0 2) v2) <| BH_turnOver_88 K v0 v1 v2 (siM q5 (grM q5 v0 2) (Int32.toNatClampNeg v2) ((-1)))) else (BH_turnOver_88 K v0 v1 v2 M)
def BH_turnOver_24 (K : Nat → Int32 → Int32 → Mem → Option ((Mem))) (v0 : Nat) (v1 : Int32) (v2 : Int32) (M : Mem) : Option ((Mem)) :=
  gd (obM M v0 1 9) <| gd (decide (grM M v0 0 ≠ 0)) <| gd (obM M (grM M v0 0) 7 3) <| gd (decide (grM M (grM M v0 0) 0 ≠ 0)) <| gd (rdI M (grM M (grM M v0 0) 0) 1) <| if (giM M (grM M (grM M v0 0) 0) (Int32.toNatClampNeg 1)) ≤ v2 then (gd (decide (grM M v0 6 ≠ 0)) <| gd (wrI M (grM M v0 6) v1) <| some (siM M (grM M v0 6) (Int32.toNatClampNeg v1) 0)) else (gd (decide (grM M v0 2 ≠ 0)) <| gd (rdI M (grM M v0 2) v2) <| if (giM M (grM M v0 2) (Int32.toNatClampNeg v2)) = v1 then ((fH_usedOf v0 v2 M).bind fun q10 => if q10.1 = 0 then (gd (obM q10.2 v0 1 9) <| (fH_makeEmpty v0 v2 q10.2).bind fun q11 => BH_turnOver_88 K v0 v1 v2 q11) else (BH_turnOver_63 K v0 v1 v2 q10.2)) else (BH_turnOver_63 K v0 v1 v2 M))
def LH_turnOver_24 : Nat → Nat → Int32 → Int32 → Mem → Option ((Mem))
  | 0 => fun _ _ _ _ => none
  | f + 1 => BH_turnOver_24 (LH_turnOver_24 f)
def fH_turnOver (v0 : Nat) (v1 : Int32) (M : Mem) : Option (Mem) :=
  gd (obM M v0 1 9) <| (fH_isLiving v0 v1 M).bind fun q1 => if q1.1 = 0 then (gd (obM q1.2 v0 1 9) <| gd (decide (grM q1.2 v0 6 ≠ 0)) <| gd (wrI q1.2 (grM q1.2 v0 6) v1) <| some (siM q1.2 (grM q1.2 v0 6) (Int32.toNatClampNeg v1) 1)) else (gd (obM q1.2 v0 1 9) <| (fH_sendAll v0 v1 q1.2).bind fun q3 => (LH_turnOver_24 1000000 v0 v1 0 q3.2).bind (fun r6 => some r6))
def BA_turn_52 (w0 : Int32) (M : Mem) : Option (Int32 × Mem) :=
  some (w0, M)
def fA_turn (v0 : Nat) (v1 : Int32) (M : Mem) : Option (Int32 × Mem) :=
  gd (obM M v0 10 15) <| gd (decide (grM M v0 7 ≠ 0)) <| gd (obM M (grM M v0 7) 1 9) <| (fH_isThread (grM M v0 7) v1 M).bind fun q3 => if q3.1 = 0 then (gd (obM q3.2 v0 10 15) <| (fA_refuse v0 0 q3.2).bind fun q18 => some (q18.1, q18.2)) else (gd (obM q3.2 v0 10 15) <| gd (decide (grM q3.2 v0 8 ≠ 0)) <| gd (decide (grM q3.2 v0 7 ≠ 0)) <| gd (obM q3.2 (grM q3.2 v0 8) 4 3) <| (fP_keep (grM q3.2 v0 8) (grM q3.2 v0 7) q3.2).bind fun q8 => gd (obM q8 v0 10 15) <| gd (decide (grM q8 v0 7 ≠ 0)) <| gd (obM q8 (grM q8 v0 7) 1 9) <| (fH_turnOver (grM q8 v0 7) v1 q8).bind fun q12 => gd (obM q12 v0 10 15) <| gd (decide (grM q12 v0 7 ≠ 0)) <| gd (obM q12 (grM q12 v0 7) 1 9) <| (fH_isLiving (grM q12 v0 7) v1 q12).bind fun q16 => if q16.1 = 0 then (BA_turn_52 0 q16.2) else (BA_turn_52 1 q16.2))
def BA_isScript_17 (w0 : Int32) (M : Mem) : Option (Int32 × Mem) :=
  gd (decide (w0 = 0 ∨ w0 = 1)) <| some (w0, M)
def BA_isScript_16 (M : Mem) : Option (Int32 × Mem) :=
  BA_isScript_17 0 M
def fA_isScript (v0 : Nat) (v1 : Int32) (M : Mem) : Option (Int32 × Mem) :=
  if v1 < 0 then (BA_isScript_16  M) else (gd (obM M v0 10 15) <| if (giM M v0 5) ≤ v1 then (BA_isScript_16  M) else (BA_isScript_17 1 M))
def fG_restart (v0 : Nat) (M : Mem) : Option (Mem) :=
  gd (obM M v0 5 5) <| some (siM (siM M v0 3 0) v0 4 0)
def BH_lowestLiving_2 (K : Nat → Int32 → Mem → Option ((Int32 × Mem))) (v0 : Nat) (v1 : Int32) (M : Mem) : Option ((Int32 × Mem)) :=
  gd (obM M v0 1 9) <| gd (decide (grM M v0 0 ≠ 0)) <| gd (obM M (grM M v0 0) 7 3) <| gd (decide (grM M (grM M v0 0) 0 ≠ 0)) <| gd (rdI M (grM M (grM M v0 0) 0) 0) <| if (giM M (grM M (grM M v0 0) 0) (Int32.toNatClampNeg 0)) ≤ v1 then (some ((-1), M)) else (gd (decide (grM M v0 6 ≠ 0)) <| gd (rdI M (grM M v0 6) v1) <| if (giM M (grM M v0 6) (Int32.toNatClampNeg v1)) = 1 then (some (v1, M)) else (K v0 (v1 + 1) M))
def LH_lowestLiving_2 : Nat → Nat → Int32 → Mem → Option ((Int32 × Mem))
  | 0 => fun _ _ _ => none
  | f + 1 => BH_lowestLiving_2 (LH_lowestLiving_2 f)
def fH_lowestLiving (v0 : Nat) (M : Mem) : Option (Int32 × Mem) :=
  (LH_lowestLiving_2 1000000 v0 0 M).bind (fun r2 => some r2)
def BG_endScope_108 (v0 : Nat) (M : Mem) : Option (Mem) :=
  gd (obM M v0 5 5) <| some (siM M v0 4 ((giM M v0 4) - 1))
def BG_endScope_102 (K : Nat → Nat → Int32 → Mem → Option ((Mem))) (v0 : Nat) (v1 : Nat) (v2 : Int32) (M : Mem) : Option ((Mem)) :=
  K v0 v1 (v2 + (-1)) M
def BG_endScope_67 (K : Nat → Nat → Int32 → Mem → Option ((Mem))) (v0 : Nat) (v1 : Nat) (v2 : Int32) (w0 : Int32) (M : Mem) : Option ((Mem)) :=
  if w0 = ((-1)) then (BG_endScope_102 K v0 v1 v2 M) else (gd (obM M v0 5 5) <| gd (decide (grM M v0 0 ≠ 0)) <| gd (rdI M (grM M v0 0) v2) <| if (giM M (grM M v0 0) (Int32.toNatClampNeg v2)) = ((-1)) then (BG_endScope_102 K v0 v1 v2 M) else (gd (obM M v1 1 9) <| (fH_giveBlock v1 w0 (giM M (grM M v0 0) (Int32.toNatClampNeg v2)) M).bind fun q4 => gd (obM q4.2 v0 5 5) <| gd (decide (grM q4.2 v0 0 ≠ 0)) <| gd (wrI q4.2 (grM q4.2 v0 0) v2) <| BG_endScope_102 K v0 v1 v2 (siM q4.2 (grM q4.2 v0 0) (Int32.toNatClampNeg v2) ((-1)))))
def BG_endScope_7 (K : Nat → Nat → Int32 → Mem → Option ((Mem))) (v0 : Nat) (v1 : Nat) (v2 : Int32) (M : Mem) : Option ((Mem)) :=
  if v2 < 0 then (some M) else (gd (obM M v0 5 5) <| if (giM M v0 4) ≤ 0 then (some M) else (gd (decide (grM M v0 2 ≠ 0)) <| gd (rdI M (grM M v0 2) v2) <| if (giM M (grM M v0 2) (Int32.toNatClampNeg v2)) = (giM M v0 4) then (gd (wrI M (grM M v0 2) v2) <| gd (decide (grM M v0 1 ≠ 0)) <| gd (rdI M (grM M v0 1) v2) <| gd (obM M v1 1 9) <| (fH_isLiving v1 (giM (siM M (grM M v0 2) (Int32.toNatClampNeg v2) 0) (grM M v0 1) (Int32.toNatClampNeg v2)) (siM M (grM M v0 2) (Int32.toNatClampNeg v2) 0)).bind fun q7 => if q7.1 = 0 then (gd (obM q7.2 v1 1 9) <| (fH_lowestLiving v1 q7.2).bind fun q9 => BG_endScope_67 K v0 v1 v2 q9.1 q9.2) else (gd (obM q7.2 v0 5 5) <| gd (decide (grM q7.2 v0 1 ≠ 0)) <| gd (rdI q7.2 (grM q7.2 v0 1) v2) <| BG_endScope_67 K v0 v1 v2 (giM q7.2 (grM q7.2 v0 1) (Int32.toNatClampNeg v2)) q7.2)) else (BG_endScope_102 K v0 v1 v2 M)))
def LG_endScope_7 : Nat → Nat → Nat → Int32 → Mem → Option ((Mem))
  | 0 => fun _ _ _ _ => none
  | f + 1 => BG_endScope_7 (LG_endScope_7 f)
def fG_endScope (v0 : Nat) (v1 : Nat) (M : Mem) : Option (Mem) :=
  gd (obM M v0 5 5) <| (LG_endScope_7 1000000 v0 v1 ((giM M v0 3) - 1) M).bind (fun y3 => BG_endScope_108 v0 y3)
def BG_noteGot_14 (M : Mem) : Option (Int32 × Mem) :=
  some (0, M)
def fG_noteGot (v0 : Nat) (v1 : Int32) (v2 : Int32) (M : Mem) : Option (Int32 × Mem) :=
  if v1 = ((-1)) then (BG_noteGot_14  M) else (gd (obM M v0 5 5) <| if (giM M v0 3) < 24 then (gd (decide (grM M v0 0 ≠ 0)) <| gd (wrI M (grM M v0 0) (giM M v0 3)) <| gd (decide (grM M v0 1 ≠ 0)) <| gd (wrI M (grM M v0 1) (giM (siM M (grM M v0 0) (Int32.toNatClampNeg (giM M v0 3)) v1) v0 3)) <| gd (decide (grM M v0 2 ≠ 0)) <| gd (wrI M (grM M v0 2) (giM (siM (siM M (grM M v0 0) (Int32.toNatClampNeg (giM M v0 3)) v1) (grM M v0 1) (Int32.toNatClampNeg (giM (siM M (grM M v0 0) (Int32.toNatClampNeg (giM M v0 3)) v1) v0 3)) v2) v0 3)) <| some (1, siM (siM (siM (siM M (grM M v0 0) (Int32.toNatClampNeg (giM M v0 3)) v1) (grM M v0 1) (Int32.toNatClampNeg (giM (siM M (grM M v0 0) (Int32.toNatClampNeg (giM M v0 3)) v1) v0 3)) v2) (grM M v0 2) (Int32.toNatClampNeg (giM (siM (siM M (grM M v0 0) (Int32.toNatClampNeg (giM M v0 3)) v1) (grM M v0 1) (Int32.toNatClampNeg (giM (siM M (grM M v0 0) (Int32.toNatClampNeg (giM M v0 3)) v1) v0 3)) v2) v0 3)) (giM (siM (siM M (grM M v0 0) (Int32.toNatClampNeg (giM M v0 3)) v1) (grM M v0 1) (Int32.toNatClampNeg (giM (siM M (grM M v0 0) (Int32.toNatClampNeg (giM M v0 3)) v1) v0 3)) v2) v0 4)) v0 3 ((giM (siM (siM (siM M (grM M v0 0) (Int32.toNatClampNeg (giM M v0 3)) v1) (grM M v0 1) (Int32.toNatClampNeg (giM (siM M (grM M v0 0) (Int32.toNatClampNeg (giM M v0 3)) v1) v0 3)) v2) (grM M v0 2) (Int32.toNatClampNeg (giM (siM (siM M (grM M v0 0) (Int32.toNatClampNeg (giM M v0 3)) v1) (grM M v0 1) (Int32.toNatClampNeg (giM (siM M (grM M v0 0) (Int32.toNatClampNeg (giM M v0 3)) v1) v0 3)) v2) v0 3)) (giM (siM (siM M (grM M v0 0) (Int32.toNatClampNeg (giM M v0 3)) v1) (grM M v0 1) (Int32.toNatClampNeg (giM (siM M (grM M v0 0) (Int32.toNatClampNeg (giM M v0 3)) v1) v0 3)) v2) v0 4)) v0 3) + 1))) else (BG_noteGot_14  M))
def BG_giveNumbered_30 (M : Mem) : Option (Int32 × Mem) :=
  some (0, M)
def fG_giveNumbered (v0 : Nat) (v1 : Nat) (v2 : Int32) (v3 : Int32) (M : Mem) : Option (Int32 × Mem) :=
  if v3 < 0 then (BG_giveNumbered_30  M) else (gd (obM M v0 5 5) <| if (giM M v0 3) ≤ v3 then (BG_giveNumbered_30  M) else (gd (decide (grM M v0 0 ≠ 0)) <| gd (rdI M (grM M v0 0) v3) <| if (giM M (grM M v0 0) (Int32.toNatClampNeg v3)) = ((-1)) then (BG_giveNumbered_30  M) else (gd (obM M v1 1 9) <| (fH_isLiving v1 v2 M).bind fun q4 => if q4.1 = 0 then (BG_giveNumbered_30  q4.2) else (gd (obM q4.2 v0 5 5) <| gd (decide (grM q4.2 v0 0 ≠ 0)) <| gd (rdI q4.2 (grM q4.2 v0 0) v3) <| gd (obM q4.2 v1 1 9) <| (fH_giveBlock v1 v2 (giM q4.2 (grM q4.2 v0 0) (Int32.toNatClampNeg v3)) q4.2).bind fun q9 => gd (obM q9.2 v0 5 5) <| gd (decide (grM q9.2 v0 0 ≠ 0)) <| gd (wrI q9.2 (grM q9.2 v0 0) v3) <| some (1, siM q9.2 (grM q9.2 v0 0) (Int32.toNatClampNeg v3) ((-1)))))))
def BG_tickOrSend_29 (M : Mem) : Option (Int32 × Mem) :=
  some (1, M)
def fG_tickOrSend (v0 : Nat) (v1 : Nat) (v2 : Int32) (v3 : Int32) (M : Mem) : Option (Int32 × Mem) :=
  gd (obM M v1 1 9) <| (fH_isLiving v1 v2 M).bind fun q1 => if q1.1 = 0 then (some (0, q1.2)) else (if v3 = 3 then (gd (obM q1.2 v1 1 9) <| (fH_beat v1 v2 q1.2).bind fun q5 => BG_tickOrSend_29  q5) else (gd (obM q1.2 v1 1 9) <| (fH_sendAll v1 v2 q1.2).bind fun q3 => BG_tickOrSend_29  q3.2))
def fG_doStep (v0 : Nat) (v1 : Nat) (v2 : Nat) (v3 : Int32) (M : Mem) : Option (Int32 × Mem) :=
  gd (obM M v2 8 4) <| gd (decide (grM M v2 1 ≠ 0)) <| gd (rdI M (grM M v2 1) v3) <| gd (decide (grM M v2 0 ≠ 0)) <| gd (rdI M (grM M v2 0) v3) <| if (giM M (grM M v2 0) (Int32.toNatClampNeg v3)) = 0 then (gd (decide (grM M v2 2 ≠ 0)) <| gd (rdI M (grM M v2 2) v3) <| gd (obM M v1 1 9) <| (fH_takeBlock v1 (giM M (grM M v2 1) (Int32.toNatClampNeg v3)) (giM M (grM M v2 2) (Int32.toNatClampNeg v3)) M).bind fun q8 => gd (obM q8.2 v0 5 5) <| (fG_noteGot v0 q8.1 (giM M (grM M v2 1) (Int32.toNatClampNeg v3)) q8.2).bind fun q10 => gd (decide (q10.1 = 0 ∨ q10.1 = 1)) <| some (q10.1, q10.2)) else if (giM M (grM M v2 0) (Int32.toNatClampNeg v3)) = 1 then (gd (decide (grM M v2 2 ≠ 0)) <| gd (rdI M (grM M v2 2) v3) <| gd (obM M v0 5 5) <| (fG_giveNumbered v0 v1 (giM M (grM M v2 1) (Int32.toNatClampNeg v3)) (giM M (grM M v2 2) (Int32.toNatClampNeg v3)) M).bind fun q15 => gd (decide (q15.1 = 0 ∨ q15.1 = 1)) <| some (q15.1, q15.2)) else if (giM M (grM M v2 0) (Int32.toNatClampNeg v3)) = 2 then (gd (obM M v1 1 9) <| (fH_isThread v1 (giM M (grM M v2 1) (Int32.toNatClampNeg v3)) M).bind fun q18 => if q18.1 = 0 then (some (0, q18.2)) else (gd (obM q18.2 v1 1 9) <| (fH_turnOver v1 (giM M (grM M v2 1) (Int32.toNatClampNeg v3)) q18.2).bind fun q20 => some (1, q20))) else if (giM M (grM M v2 0) (Int32.toNatClampNeg v3)) = 3 then (gd (obM M v0 5 5) <| (fG_tickOrSend v0 v1 (giM M (grM M v2 1) (Int32.toNatClampNeg v3)) (giM M (grM M v2 0) (Int32.toNatClampNeg v3)) M).bind fun q22 => gd (decide (q22.1 = 0 ∨ q22.1 = 1)) <| some (q22.1, q22.2)) else if (giM M (grM M v2 0) (Int32.toNatClampNeg v3)) = 4 then (gd (obM M v0 5 5) <| (fG_tickOrSend v0 v1 (giM M (grM M v2 1) (Int32.toNatClampNeg v3)) (giM M (grM M v2 0) (Int32.toNatClampNeg v3)) M).bind fun q25 => gd (decide (q25.1 = 0 ∨ q25.1 = 1)) <| some (q25.1, q25.2)) else if (giM M (grM M v2 0) (Int32.toNatClampNeg v3)) = 5 then (gd (obM M v0 5 5) <| some (1, siM M v0 4 ((giM M v0 4) + 1))) else if (giM M (grM M v2 0) (Int32.toNatClampNeg v3)) = 6 then (gd (obM M v0 5 5) <| (fG_endScope v0 v1 M).bind fun q29 => some (1, q29)) else (gd (obM M v0 5 5) <| (fG_tickOrSend v0 v1 (giM M (grM M v2 1) (Int32.toNatClampNeg v3)) (giM M (grM M v2 0) (Int32.toNatClampNeg v3)) M).bind fun q31 => gd (decide (q31.1 = 0 ∨ q31.1 = 1)) <| some (q31.1, q31.2))
def BG_runWhole_36 (K : Nat → Nat → Int32 → Int32 → Mem → Option ((Int32 × Mem))) (v0 : Nat) (v1 : Nat) (v3 : Int32) (v4 : Int32) (M : Mem) : Option ((Int32 × Mem)) :=
  if v4 ≤ 0 then (some (v3, M)) else (gd (obM M v0 5 5) <| (fG_endScope v0 v1 M).bind fun q1 => K v0 v1 v3 (v4 + (-1)) q1)
def LG_runWhole_36 : Nat → Nat → Nat → Int32 → Int32 → Mem → Option ((Int32 × Mem))
  | 0 => fun _ _ _ _ _ => none
  | f + 1 => BG_runWhole_36 (LG_runWhole_36 f)
def BG_runWhole_30 (v0 : Nat) (v1 : Nat) (v3 : Int32) (M : Mem) : Option (Int32 × Mem) :=
  gd (obM M v0 5 5) <| (LG_runWhole_36 1000000 v0 v1 v3 (giM M v0 4) M).bind (fun r3 => some r3)
def BG_runWhole_6 (K : Nat → Nat → Nat → Int32 → Mem → Option ((Int32 × Mem))) (v0 : Nat) (v1 : Nat) (v2 : Nat) (v3 : Int32) (M : Mem) : Option ((Int32 × Mem)) :=
  gd (obM M v2 8 4) <| if (giM M v2 3) ≤ v3 then (some (v3, M)) else (gd (obM M v0 5 5) <| (fG_doStep v0 v1 v2 v3 M).bind fun q2 => if q2.1 = 0 then (some (v3, q2.2)) else (K v0 v1 v2 (v3 + 1) q2.2))
def LG_runWhole_6 : Nat → Nat → Nat → Nat → Int32 → Mem → Option ((Int32 × Mem))
  | 0 => fun _ _ _ _ _ => none
  | f + 1 => BG_runWhole_6 (LG_runWhole_6 f)
def fG_runWhole (v0 : Nat) (v1 : Nat) (v2 : Nat) (M : Mem) : Option (Int32 × Mem) :=
  gd (obM M v0 5 5) <| (fG_restart v0 M).bind fun q1 => (LG_runWhole_6 1000000 v0 v1 v2 0 q1).bind (fun y4 => BG_runWhole_30 v0 v1 y4.1 y4.2)
def BA_perform_18 (v0 : Nat) (M : Mem) : Option (Int32 × Mem) :=
  gd (obM M v0 10 15) <| (fA_refuse v0 0 M).bind fun q1 => some (q1.1, q1.2)
def fA_perform (v0 : Nat) (v1 : Int32) (M : Mem) : Option (Int32 × Mem) :=
  gd (obM M v0 10 15) <| gd (decide (grM M v0 2 ≠ 0)) <| gd (obM M (grM M v0 2) 7 3) <| (fU_areTold (grM M v0 2) M).bind fun q3 => if q3.1 = 0 then (BA_perform_18 v0 q3.2) else (gd (obM q3.2 v0 10 15) <| (fA_isScript v0 v1 q3.2).bind fun q5 => if q5.1 = 0 then (BA_perform_18 v0 q5.2) else (gd (obM q5.2 v0 10 15) <| gd (decide (grM q5.2 v0 8 ≠ 0)) <| gd (decide (grM q5.2 v0 7 ≠ 0)) <| gd (obM q5.2 (grM q5.2 v0 8) 4 3) <| (fP_keep (grM q5.2 v0 8) (grM q5.2 v0 7) q5.2).bind fun q10 => gd (obM q10 v0 10 15) <| gd (decide (grM q10 v0 14 ≠ 0)) <| gd (decide (grM q10 v0 7 ≠ 0)) <| gd (decide (grM q10 v0 4 ≠ 0)) <| gd (wrT 104 q10 (grM q10 v0 4) v1) <| gd (decide (grM q10 (grM q10 v0 4) (Int32.toNatClampNeg v1) ≠ 0)) <| gd (obM q10 (grM q10 v0 14) 5 5) <| (fG_runWhole (grM q10 v0 14) (grM q10 v0 7) (grM q10 (grM q10 v0 4) (Int32.toNatClampNeg v1)) q10).bind fun q18 => some (q18.1, q18.2)))
def fA_stir (v0 : Int64) (M : Mem) : Option (Int64 × Mem) :=
  some ((v0 * 6364136223846793005) + 1442695040888963407, M)
def BA_drawn_16 (w0 : Int32) (M : Mem) : Option (Int32 × Mem) :=
  some (w0, M)
def fA_drawn (v0 : Int64) (v2 : Int32) (M : Mem) : Option (Int32 × Mem) :=
  if v2 ≤ 0 then (BA_drawn_16 0 M) else (gd (decide (¬ (Int32.toInt64 v2) = 0)) <| BA_drawn_16 (Int64.toInt32 (((Int64.toUInt64 v0 >>> (Int64.toUInt64 (Int32.toInt64 33) &&& Int64.toUInt64 63)).toInt64) - ((Int64.toUInt64 v0 >>> (Int64.toUInt64 (Int32.toInt64 33) &&& Int64.toUInt64 63)).toInt64) / (Int32.toInt64 v2) * (Int32.toInt64 v2))) M)
def BH_heldIn_8 (K : Nat → Int32 → Int32 → Int32 → Mem → Option ((Int32 × Mem))) (v0 : Nat) (v1 : Int32) (v2 : Int32) (v3 : Int32) (M : Mem) : Option ((Int32 × Mem)) :=
  gd (obM M v0 1 9) <| gd (decide (grM M v0 0 ≠ 0)) <| gd (obM M (grM M v0 0) 7 3) <| gd (decide (grM M (grM M v0 0) 0 ≠ 0)) <| gd (rdI M (grM M (grM M v0 0) 0) 0) <| if (giM M (grM M (grM M v0 0) 0) (Int32.toNatClampNeg 0)) ≤ v3 then (some (v2, M)) else (gd (decide (grM M v0 5 ≠ 0)) <| gd (obM M (grM M v0 5) 0 4) <| gd (decide (grM M (grM M v0 5) 1 ≠ 0)) <| (fH_outboxOf v0 v3 v1 M).bind fun q9 => gd (rdI q9.2 (grM M (grM M v0 5) 1) q9.1) <| K v0 v1 (v2 - (giM q9.2 (grM M (grM M v0 5) 1) (Int32.toNatClampNeg q9.1))) (v3 + 1) q9.2)
def LH_heldIn_8 : Nat → Nat → Int32 → Int32 → Int32 → Mem → Option ((Int32 × Mem))
  | 0 => fun _ _ _ _ _ => none
  | f + 1 => BH_heldIn_8 (LH_heldIn_8 f)
def fH_heldIn (v0 : Nat) (v1 : Int32) (M : Mem) : Option (Int32 × Mem) :=
  gd (obM M v0 1 9) <| (fH_usedOf v0 v1 M).bind fun q1 => (LH_heldIn_8 1000000 v0 v1 q1.1 0 q1.2).bind (fun r4 => some r4)
def BH_heldInAll_4 (K : Nat → Int32 → Int32 → Mem → Option ((Int32 × Mem))) (v0 : Nat) (v1 : Int32) (v2 : Int32) (M : Mem) : Option ((Int32 × Mem)) :=
  gd (obM M v0 1 9) <| gd (decide (grM M v0 0 ≠ 0)) <| gd (obM M (grM M v0 0) 7 3) <| gd (decide (grM M (grM M v0 0) 0 ≠ 0)) <| gd (rdI M (grM M (grM M v0 0) 0) 1) <| if (giM M (grM M (grM M v0 0) 0) (Int32.toNatClampNeg 1)) ≤ v2 then (some (v1, M)) else ((fH_heldIn v0 v2 M).bind fun q6 => K v0 (v1 + q6.1) (v2 + 1) q6.2)
def LH_heldInAll_4 : Nat → Nat → Int32 → Int32 → Mem → Option ((Int32 × Mem))
  | 0 => fun _ _ _ _ => none
  | f + 1 => BH_heldInAll_4 (LH_heldInAll_4 f)
def fH_heldInAll (v0 : Nat) (M : Mem) : Option (Int32 × Mem) :=
  (LH_heldInAll_4 1000000 v0 0 0 M).bind (fun r2 => some r2)
def BH_heldAt_68 (K : Nat → Int32 → Int32 → Int32 → Mem → Option ((Int32 × Mem) ⊕ (Int32 × Mem))) (v0 : Nat) (v2 : Int32) (v3 : Int32) (v4 : Int32) (M : Mem) : Option ((Int32 × Mem) ⊕ (Int32 × Mem)) :=
  K v0 v2 v3 (v4 + 1) M
def BH_heldAt_20 (K : Nat → Int32 → Int32 → Int32 → Mem → Option ((Int32 × Mem) ⊕ (Int32 × Mem))) (v0 : Nat) (v2 : Int32) (v3 : Int32) (v4 : Int32) (M : Mem) : Option ((Int32 × Mem) ⊕ (Int32 × Mem)) :=
  gd (obM M v0 1 9) <| gd (decide (grM M v0 3 ≠ 0)) <| gd (rdI M (grM M v0 3) v3) <| if (giM M (grM M v0 3) (Int32.toNatClampNeg v3)) ≤ v4 then (some (.inr (v2, M))) else (gd (decide (grM M v0 5 ≠ 0)) <| gd (obM M (grM M v0 5) 0 4) <| gd (decide (grM M (grM M v0 5) 3 ≠ 0)) <| gd (rdI M (grM M (grM M v0 5) 3) ((v3 * 40) + v4)) <| if (giM M (grM M (grM M v0 5) 3) (Int32.toNatClampNeg ((v3 * 40) + v4))) = ((-1)) then (if v2 = 0 then (some (.inl ((v3 * 100) + v4, M))) else (BH_heldAt_68 K v0 (v2 + (-1)) v3 v4 M)) else (BH_heldAt_68 K v0 v2 v3 v4 M))
def LH_heldAt_20 : Nat → Nat → Int32 → Int32 → Int32 → Mem → Option ((Int32 × Mem) ⊕ (Int32 × Mem))
  | 0 => fun _ _ _ _ _ => none
  | f + 1 => BH_heldAt_20 (LH_heldAt_20 f)
def BH_heldAt_4 (K : Nat → Int32 → Int32 → Mem → Option ((Int32 × Mem))) (v0 : Nat) (v2 : Int32) (v3 : Int32) (M : Mem) : Option ((Int32 × Mem)) :=
  gd (obM M v0 1 9) <| gd (decide (grM M v0 0 ≠ 0)) <| gd (obM M (grM M v0 0) 7 3) <| gd (decide (grM M (grM M v0 0) 0 ≠ 0)) <| gd (rdI M (grM M (grM M v0 0) 0) 1) <| if (giM M (grM M (grM M v0 0) 0) (Int32.toNatClampNeg 1)) ≤ v3 then (some ((-1), M)) else ((LH_heldAt_20 1000000 v0 v2 v3 0 M).bind (Sum.elim (fun r7 => some r7) (fun y8 => K v0 y8.1 (v3 + 1) y8.2)))
def LH_heldAt_4 : Nat → Nat → Int32 → Int32 → Mem → Option ((Int32 × Mem))
  | 0 => fun _ _ _ _ => none
  | f + 1 => BH_heldAt_4 (LH_heldAt_4 f)
def fH_heldAt (v0 : Nat) (v1 : Int32) (M : Mem) : Option (Int32 × Mem) :=
  (LH_heldAt_4 1000000 v0 v1 0 M).bind (fun r2 => some r2)
def BA_liveYear_119 (v3 : Int64) (M : Mem) : Option (Int64 × Mem) :=
  some (v3, M)
def fA_liveYear (v0 : Nat) (v1 : Int64) (M : Mem) : Option (Int64 × Mem) :=
  gd (obM M v0 10 15) <| gd (decide (grM M v0 8 ≠ 0)) <| gd (decide (grM M v0 7 ≠ 0)) <| gd (obM M (grM M v0 8) 4 3) <| (fP_keep (grM M v0 8) (grM M v0 7) M).bind fun q4 => (fA_stir v1 q4).bind fun q6 => gd (obM q6.2 v0 10 15) <| gd (decide (grM q6.2 v0 2 ≠ 0)) <| gd (obM q6.2 (grM q6.2 v0 2) 7 3) <| gd (decide (grM q6.2 (grM q6.2 v0 2) 0 ≠ 0)) <| gd (rdI q6.2 (grM q6.2 (grM q6.2 v0 2) 0) 0) <| (fA_drawn q6.1 (giM q6.2 (grM q6.2 (grM q6.2 v0 2) 0) (Int32.toNatClampNeg 0)) q6.2).bind fun q12 => (fA_stir q6.1 q12.2).bind fun q13 => (fA_drawn q13.1 3 q13.2).bind fun q14 => if 2 ≤ q14.1 then (gd (obM q14.2 v0 10 15) <| gd (decide (grM q14.2 v0 7 ≠ 0)) <| gd (obM q14.2 (grM q14.2 v0 7) 1 9) <| (fH_heldInAll (grM q14.2 v0 7) q14.2).bind fun q17 => if q17.1 ≤ 0 then (BA_liveYear_119 q13.1 q17.2) else ((fA_stir q13.1 q17.2).bind fun q19 => gd (obM q19.2 v0 10 15) <| gd (decide (grM q19.2 v0 7 ≠ 0)) <| (fA_drawn q19.1 q17.1 q19.2).bind fun q22 => gd (obM q22.2 (grM q19.2 v0 7) 1 9) <| (fH_heldAt (grM q19.2 v0 7) q22.1 q22.2).bind fun q23 => gd (obM q23.2 (grM q19.2 v0 7) 1 9) <| (fH_giveBlock (grM q19.2 v0 7) q12.1 q23.1 q23.2).bind fun q25 => BA_liveYear_119 q19.1 q25.2)) else ((fA_stir q13.1 q14.2).bind fun q27 => gd (obM q27.2 v0 10 15) <| gd (decide (grM q27.2 v0 7 ≠ 0)) <| gd (decide (grM q27.2 v0 2 ≠ 0)) <| gd (obM q27.2 (grM q27.2 v0 2) 7 3) <| gd (decide (grM q27.2 (grM q27.2 v0 2) 0 ≠ 0)) <| gd (rdI q27.2 (grM q27.2 (grM q27.2 v0 2) 0) 2) <| (fA_drawn q27.1 (giM q27.2 (grM q27.2 (grM q27.2 v0 2) 0) (Int32.toNatClampNeg 2)) q27.2).bind fun q34 => gd (obM q34.2 (grM q27.2 v0 7) 1 9) <| (fH_takeBlock (grM q27.2 v0 7) q12.1 (q34.1 + 1) q34.2).bind fun q35 => some (q27.1, q35.2))
def BA_years_29 (K : Nat → Int32 → Int64 → Int32 → Mem → Option ((Int32 × Mem))) (v0 : Nat) (v1 : Int32) (v4 : Int64) (v6 : Int32) (M : Mem) : Option ((Int32 × Mem)) :=
  if v1 ≤ v6 then (gd (obM M v0 10 15) <| gd (decide (grM M v0 7 ≠ 0)) <| gd (obM M (grM M v0 7) 1 9) <| (fH_heldInAll (grM M v0 7) M).bind fun q3 => some (q3.1, q3.2)) else (gd (obM M v0 10 15) <| (fA_liveYear v0 v4 M).bind fun q5 => K v0 v1 q5.1 (v6 + 1) q5.2)
def LA_years_29 : Nat → Nat → Int32 → Int64 → Int32 → Mem → Option ((Int32 × Mem))
  | 0 => fun _ _ _ _ _ => none
  | f + 1 => BA_years_29 (LA_years_29 f)
def BA_years_21 (M : Mem) : Option (Int32 × Mem) :=
  some ((-1), M)
def fA_years (v0 : Nat) (v1 : Int32) (v2 : Int64) (M : Mem) : Option (Int32 × Mem) :=
  gd (obM M v0 10 15) <| gd (decide (grM M v0 2 ≠ 0)) <| gd (obM M (grM M v0 2) 7 3) <| (fU_areTold (grM M v0 2) M).bind fun q3 => if q3.1 = 0 then (BA_years_21  q3.2) else (if v1 < 1 then (BA_years_21  q3.2) else (if v1 ≤ 40 then ((LA_years_29 1000000 v0 v1 v2 0 q3.2).bind (fun r6 => some r6)) else (BA_years_21  q3.2)))
def BA_status_23 (w0 : Int32) (M : Mem) : Option (Int32 × Mem) :=
  some (w0, M)
def BA_status_22 (M : Mem) : Option (Int32 × Mem) :=
  BA_status_23 ((-1)) M
def fA_status (v0 : Nat) (v1 : Int32) (M : Mem) : Option (Int32 × Mem) :=
  if v1 < 0 then (BA_status_22  M) else (gd (obM M v0 10 15) <| gd (decide (grM M v0 11 ≠ 0)) <| gd (lnI M (grM M v0 11)) <| if (Int32.ofNat (tgM M (grM M v0 11)).2) ≤ v1 then (BA_status_22  M) else (gd (rdI M (grM M v0 11) v1) <| BA_status_23 (giM M (grM M v0 11) (Int32.toNatClampNeg v1)) M))
def fP_takeBack (v0 : Nat) (v1 : Nat) (M : Mem) : Option (Int32 × Mem) :=
  gd (obM M v0 4 3) <| if 0 < (giM M v0 2) then (gd (decide (grM M v0 0 ≠ 0)) <| gd (wrT 103 M (grM M v0 0) (((giM (siM M v0 2 ((giM M v0 2) - 1)) v0 1) + (giM (siM M v0 2 ((giM M v0 2) - 1)) v0 2)) - ((giM (siM M v0 2 ((giM M v0 2) - 1)) v0 1) + (giM (siM M v0 2 ((giM M v0 2) - 1)) v0 2)) / 40 * 40)) <| gd (decide (grM M (grM M v0 0) (Int32.toNatClampNeg (((giM (siM M v0 2 ((giM M v0 2) - 1)) v0 1) + (giM (siM M v0 2 ((giM M v0 2) - 1)) v0 2)) - ((giM (siM M v0 2 ((giM M v0 2) - 1)) v0 1) + (giM (siM M v0 2 ((giM M v0 2) - 1)) v0 2)) / 40 * 40)) ≠ 0)) <| gd (obM M v1 1 9) <| (fH_copyFrom v1 (grM M (grM M v0 0) (Int32.toNatClampNeg (((giM (siM M v0 2 ((giM M v0 2) - 1)) v0 1) + (giM (siM M v0 2 ((giM M v0 2) - 1)) v0 2)) - ((giM (siM M v0 2 ((giM M v0 2) - 1)) v0 1) + (giM (siM M v0 2 ((giM M v0 2) - 1)) v0 2)) / 40 * 40))) (siM M v0 2 ((giM M v0 2) - 1))).bind fun q5 => gd (obM q5 v0 4 3) <| some (giM q5 v0 2, q5)) else (some ((-1), M))
def fA_undo (v0 : Nat) (M : Mem) : Option (Int32 × Mem) :=
  gd (obM M v0 10 15) <| gd (decide (grM M v0 8 ≠ 0)) <| gd (decide (grM M v0 7 ≠ 0)) <| gd (obM M (grM M v0 8) 4 3) <| (fP_takeBack (grM M v0 8) (grM M v0 7) M).bind fun q4 => some (q4.1, q4.2)
def fL_length (v0 : Nat) (M : Mem) : Option (Int32 × Mem) :=
  gd (obM M v0 2 2) <| (fK_min (giM M v0 1) 60 M).bind fun q2 => some (q2.1, q2.2)
def fL_entryAt (v0 : Nat) (v1 : Int32) (M : Mem) : Option (Int32 × Mem) :=
  gd (obM M v0 2 2) <| gd (decide (grM M v0 0 ≠ 0)) <| (fK_floorMod (((giM M v0 1) - 1) - v1) 60 M).bind fun q3 => gd (rdI q3.2 (grM M v0 0) q3.1) <| some (giM q3.2 (grM M v0 0) (Int32.toNatClampNeg q3.1), q3.2)
def fL_blockAt (v0 : Nat) (v1 : Int32) (M : Mem) : Option (Int32 × Mem) :=
  gd (obM M v0 2 2) <| (fL_entryAt v0 v1 M).bind fun q1 => some (q1.1 / 100, q1.2)
def fL_threadAt (v0 : Nat) (v1 : Int32) (M : Mem) : Option (Int32 × Mem) :=
  gd (obM M v0 2 2) <| (fL_entryAt v0 v1 M).bind fun q1 => some ((q1.1 / 10) - (q1.1 / 10) / 10 * 10, q1.2)
def fL_howAt (v0 : Nat) (v1 : Int32) (M : Mem) : Option (Int32 × Mem) :=
  gd (obM M v0 2 2) <| (fL_entryAt v0 v1 M).bind fun q1 => some (q1.1 - q1.1 / 10 * 10, q1.2)
def BA_log_18 (M : Mem) : Option (Int32 × Mem) :=
  some ((-1), M)
def fA_log (v0 : Nat) (v1 : Int32) (v2 : Int32) (M : Mem) : Option (Int32 × Mem) :=
  if v1 < 0 then (BA_log_18  M) else (gd (obM M v0 10 15) <| gd (decide (grM M v0 7 ≠ 0)) <| gd (obM M (grM M v0 7) 1 9) <| gd (decide (grM M (grM M v0 7) 8 ≠ 0)) <| gd (obM M (grM M (grM M v0 7) 8) 2 2) <| (fL_length (grM M (grM M v0 7) 8) M).bind fun q5 => if v1 < q5.1 then (if v2 = 0 then (gd (obM q5.2 v0 10 15) <| gd (decide (grM q5.2 v0 7 ≠ 0)) <| gd (obM q5.2 (grM q5.2 v0 7) 1 9) <| gd (decide (grM q5.2 (grM q5.2 v0 7) 8 ≠ 0)) <| gd (obM q5.2 (grM q5.2 (grM q5.2 v0 7) 8) 2 2) <| (fL_blockAt (grM q5.2 (grM q5.2 v0 7) 8) v1 q5.2).bind fun q11 => some (q11.1, q11.2)) else if v2 = 1 then (gd (obM q5.2 v0 10 15) <| gd (decide (grM q5.2 v0 7 ≠ 0)) <| gd (obM q5.2 (grM q5.2 v0 7) 1 9) <| gd (decide (grM q5.2 (grM q5.2 v0 7) 8 ≠ 0)) <| gd (obM q5.2 (grM q5.2 (grM q5.2 v0 7) 8) 2 2) <| (fL_threadAt (grM q5.2 (grM q5.2 v0 7) 8) v1 q5.2).bind fun q17 => some (q17.1, q17.2)) else if v2 = 2 then (gd (obM q5.2 v0 10 15) <| gd (decide (grM q5.2 v0 7 ≠ 0)) <| gd (obM q5.2 (grM q5.2 v0 7) 1 9) <| gd (decide (grM q5.2 (grM q5.2 v0 7) 8 ≠ 0)) <| gd (obM q5.2 (grM q5.2 (grM q5.2 v0 7) 8) 2 2) <| (fL_howAt (grM q5.2 (grM q5.2 v0 7) 8) v1 q5.2).bind fun q23 => some (q23.1, q23.2)) else (some ((-1), q5.2))) else (BA_log_18  q5.2))
def BA_step_25 (M : Mem) : Option (Int32 × Mem) :=
  some ((-1000000), M)
def fA_step (v0 : Nat) (v1 : Int32) (v2 : Int32) (v3 : Int32) (M : Mem) : Option (Int32 × Mem) :=
  gd (obM M v0 10 15) <| (fA_isScript v0 v1 M).bind fun q1 => if q1.1 = 0 then (BA_step_25  q1.2) else (if v2 < 0 then (BA_step_25  q1.2) else (gd (obM q1.2 v0 10 15) <| gd (decide (grM q1.2 v0 4 ≠ 0)) <| gd (wrT 104 q1.2 (grM q1.2 v0 4) v1) <| gd (decide (grM q1.2 (grM q1.2 v0 4) (Int32.toNatClampNeg v1) ≠ 0)) <| gd (obM q1.2 (grM q1.2 (grM q1.2 v0 4) (Int32.toNatClampNeg v1)) 8 4) <| if v2 < (giM q1.2 (grM q1.2 (grM q1.2 v0 4) (Int32.toNatClampNeg v1)) 3) then (if v3 = 0 then (gd (decide (grM q1.2 (grM q1.2 (grM q1.2 v0 4) (Int32.toNatClampNeg v1)) 0 ≠ 0)) <| gd (rdI q1.2 (grM q1.2 (grM q1.2 (grM q1.2 v0 4) (Int32.toNatClampNeg v1)) 0) v2) <| some (giM q1.2 (grM q1.2 (grM q1.2 (grM q1.2 v0 4) (Int32.toNatClampNeg v1)) 0) (Int32.toNatClampNeg v2), q1.2)) else if v3 = 1 then (gd (decide (grM q1.2 (grM q1.2 (grM q1.2 v0 4) (Int32.toNatClampNeg v1)) 1 ≠ 0)) <| gd (rdI q1.2 (grM q1.2 (grM q1.2 (grM q1.2 v0 4) (Int32.toNatClampNeg v1)) 1) v2) <| some (giM q1.2 (grM q1.2 (grM q1.2 (grM q1.2 v0 4) (Int32.toNatClampNeg v1)) 1) (Int32.toNatClampNeg v2), q1.2)) else if v3 = 2 then (gd (decide (grM q1.2 (grM q1.2 (grM q1.2 v0 4) (Int32.toNatClampNeg v1)) 2 ≠ 0)) <| gd (rdI q1.2 (grM q1.2 (grM q1.2 (grM q1.2 v0 4) (Int32.toNatClampNeg v1)) 2) v2) <| some (giM q1.2 (grM q1.2 (grM q1.2 (grM q1.2 v0 4) (Int32.toNatClampNeg v1)) 2) (Int32.toNatClampNeg v2), q1.2)) else (some ((-1000000), q1.2))) else (BA_step_25  q1.2)))
def BU_worst_86 (v1 : Int32) (M : Mem) : Option (Int32 × Mem) :=
  some (v1, M)
def BU_worst_80 (K : Nat → Int32 → Int32 → Int32 → Int32 → Mem → Option ((Int32 × Mem) ⊕ (Int32 × Mem))) (v0 : Nat) (v1 : Int32) (v2 : Int32) (v3 : Int32) (v4 : Int32) (M : Mem) : Option ((Int32 × Mem) ⊕ (Int32 × Mem)) :=
  K v0 v1 v2 v3 (v4 + 1) M
def BU_worst_66 (K : Nat → Int32 → Int32 → Int32 → Int32 → Mem → Option ((Int32 × Mem) ⊕ (Int32 × Mem))) (v0 : Nat) (v4 : Int32) (v5 : Int32) (v6 : Int32) (M : Mem) : Option ((Int32 × Mem) ⊕ (Int32 × Mem)) :=
  gd (obM M v0 7 3) <| gd (decide (grM M v0 1 ≠ 0)) <| gd (rdI M (grM M v0 1) v5) <| BU_worst_80 K v0 v4 v6 (giM M (grM M v0 1) (Int32.toNatClampNeg v5)) v4 M
def BU_worst_9 (K : Nat → Int32 → Int32 → Int32 → Int32 → Mem → Option ((Int32 × Mem) ⊕ (Int32 × Mem))) (v0 : Nat) (v1 : Int32) (v2 : Int32) (v3 : Int32) (v4 : Int32) (M : Mem) : Option ((Int32 × Mem) ⊕ (Int32 × Mem)) :=
  if 40 < v4 then (some (.inr (v1, M))) else (gd (obM M v0 7 3) <| (fU_kindFor v0 v4 M).bind fun q1 => if q1.1 = ((-1)) then (some (.inl (v1, q1.2))) else (gd (obM q1.2 v0 7 3) <| gd (decide (grM q1.2 v0 1 ≠ 0)) <| gd (rdI q1.2 (grM q1.2 v0 1) q1.1) <| if v1 = ((-1)) then (BU_worst_66 K v0 v4 q1.1 ((giM q1.2 (grM q1.2 v0 1) (Int32.toNatClampNeg q1.1)) - v4) q1.2) else (if (((giM q1.2 (grM q1.2 v0 1) (Int32.toNatClampNeg q1.1)) - v4) * v3) ≤ (v2 * (giM q1.2 (grM q1.2 v0 1) (Int32.toNatClampNeg q1.1))) then (BU_worst_80 K v0 v1 v2 v3 v4 q1.2) else (BU_worst_66 K v0 v4 q1.1 ((giM q1.2 (grM q1.2 v0 1) (Int32.toNatClampNeg q1.1)) - v4) q1.2))))
def LU_worst_9 : Nat → Nat → Int32 → Int32 → Int32 → Int32 → Mem → Option ((Int32 × Mem) ⊕ (Int32 × Mem))
  | 0 => fun _ _ _ _ _ _ => none
  | f + 1 => BU_worst_9 (LU_worst_9 f)
def fU_worst (v0 : Nat) (M : Mem) : Option (Int32 × Mem) :=
  (LU_worst_9 1000000 v0 ((-1)) 0 1 1 M).bind (Sum.elim (fun y2 => BU_worst_86 y2.1 y2.2) (fun y3 => BU_worst_86 y3.1 y3.2))
def BA_waste_41 (w0 : Int32) (M : Mem) : Option (Int32 × Mem) :=
  some (w0, M)
def fA_waste (v0 : Nat) (v1 : Int32) (M : Mem) : Option (Int32 × Mem) :=
  if v1 = 0 then (gd (obM M v0 10 15) <| gd (decide (grM M v0 2 ≠ 0)) <| gd (obM M (grM M v0 2) 7 3) <| (fU_worst (grM M v0 2) M).bind fun q12 => some (q12.1, q12.2)) else (gd (obM M v0 10 15) <| gd (decide (grM M v0 2 ≠ 0)) <| gd (obM M (grM M v0 2) 7 3) <| (fU_kindFor (grM M v0 2) v1 M).bind fun q3 => if q3.1 = ((-1)) then (BA_waste_41 ((-1)) q3.2) else (gd (obM q3.2 v0 10 15) <| gd (decide (grM q3.2 v0 2 ≠ 0)) <| gd (obM q3.2 (grM q3.2 v0 2) 7 3) <| gd (decide (grM q3.2 (grM q3.2 v0 2) 1 ≠ 0)) <| gd (rdI q3.2 (grM q3.2 (grM q3.2 v0 2) 1) q3.1) <| BA_waste_41 ((giM q3.2 (grM q3.2 (grM q3.2 v0 2) 1) (Int32.toNatClampNeg q3.1)) - v1) q3.2))
def BA_nextSize_28 (K : Int32 → Int32 → Int32 → Int32 → Int32 → Mem → Option ((Int32 × Mem))) (v0 : Int32) (v1 : Int32) (v2 : Int32) (v3 : Int32) (v4 : Int32) (M : Mem) : Option ((Int32 × Mem)) :=
  K v0 v1 v2 v3 (v4 + 1) M
def BA_nextSize_5 (K : Int32 → Int32 → Int32 → Int32 → Int32 → Mem → Option ((Int32 × Mem))) (v0 : Int32) (v1 : Int32) (v2 : Int32) (v3 : Int32) (v4 : Int32) (M : Mem) : Option ((Int32 × Mem)) :=
  if v2 < v4 then (some (v3, M)) else (if (v1 * v4) < (100 * (v4 - v0)) then (BA_nextSize_28 K v0 v1 v2 v3 v4 M) else (BA_nextSize_28 K v0 v1 v2 v4 v4 M))
def LA_nextSize_5 : Nat → Int32 → Int32 → Int32 → Int32 → Int32 → Mem → Option ((Int32 × Mem))
  | 0 => fun _ _ _ _ _ _ => none
  | f + 1 => BA_nextSize_5 (LA_nextSize_5 f)
def fA_nextSize (v0 : Int32) (v1 : Int32) (v2 : Int32) (M : Mem) : Option (Int32 × Mem) :=
  (LA_nextSize_5 1000000 v0 v1 v2 v0 v0 M).bind (fun r2 => some r2)
def BA_classes_109 (w0 : Int32) (M : Mem) : Option (Int32 × Mem) :=
  some (w0, M)
def BA_classes_87 (v2 : Int32) (v4 : Int32) (v5 : Int32) (M : Mem) : Option (Int32 × Mem) :=
  if v2 = ((-1)) then (some (v5, M)) else (if (v5 - 1) = v2 then (BA_classes_109 v4 M) else (BA_classes_109 ((-1)) M))
def BA_classes_46 (K : Int32 → Int32 → Int32 → Int32 → Int32 → Int32 → Mem → Option ((Int32 × Int32 × Mem))) (v1 : Int32) (v2 : Int32) (v3 : Int32) (v4 : Int32) (v5 : Int32) (v6 : Int32) (M : Mem) : Option ((Int32 × Int32 × Mem)) :=
  if 40 ≤ v6 then (some (v4, v5, M)) else (if v3 ≤ v4 then (some (v4, v5, M)) else (if (v5 - 1) = v2 then (some (v4, v5, M)) else ((fA_nextSize (v4 + 1) v1 v3 M).bind fun q1 => K v1 v2 v3 q1.1 (v5 + 1) (v6 + 1) q1.2)))
def LA_classes_46 : Nat → Int32 → Int32 → Int32 → Int32 → Int32 → Int32 → Mem → Option ((Int32 × Int32 × Mem))
  | 0 => fun _ _ _ _ _ _ _ => none
  | f + 1 => BA_classes_46 (LA_classes_46 f)
def BA_classes_25 (M : Mem) : Option (Int32 × Mem) :=
  some ((-1), M)
def fA_classes (v0 : Nat) (v1 : Int32) (v2 : Int32) (M : Mem) : Option (Int32 × Mem) :=
  gd (obM M v0 10 15) <| gd (decide (grM M v0 2 ≠ 0)) <| gd (obM M (grM M v0 2) 7 3) <| (fU_areTold (grM M v0 2) M).bind fun q3 => if q3.1 = 0 then (BA_classes_25  q3.2) else (if v1 < 0 then (BA_classes_25  q3.2) else (if 90 < v1 then (BA_classes_25  q3.2) else (if ((-1)) ≤ v2 then (gd (obM q3.2 v0 10 15) <| gd (decide (grM q3.2 v0 2 ≠ 0)) <| gd (obM q3.2 (grM q3.2 v0 2) 7 3) <| gd (decide (grM q3.2 (grM q3.2 v0 2) 0 ≠ 0)) <| gd (rdI q3.2 (grM q3.2 (grM q3.2 v0 2) 0) 2) <| (LA_classes_46 1000000 v1 v2 (giM q3.2 (grM q3.2 (grM q3.2 v0 2) 0) (Int32.toNatClampNeg 2)) 1 1 0 q3.2).bind (fun y11 => BA_classes_87 v2 y11.1 y11.2.1 y11.2.2)) else (BA_classes_25  q3.2))))
def BA_would_25 (M : Mem) : Option (Int32 × Mem) :=
  some ((-1), M)
def fA_would (v0 : Nat) (v1 : Int32) (v2 : Int32) (M : Mem) : Option (Int32 × Mem) :=
  gd (obM M v0 10 15) <| gd (decide (grM M v0 2 ≠ 0)) <| gd (obM M (grM M v0 2) 7 3) <| (fU_kindFor (grM M v0 2) v2 M).bind fun q3 => if q3.1 = ((-1)) then (BA_would_25  q3.2) else (gd (obM q3.2 v0 10 15) <| gd (decide (grM q3.2 v0 7 ≠ 0)) <| gd (obM q3.2 (grM q3.2 v0 7) 1 9) <| (fH_isLiving (grM q3.2 v0 7) v1 q3.2).bind fun q7 => if q7.1 = 0 then (BA_would_25  q7.2) else (gd (obM q7.2 v0 10 15) <| gd (decide (grM q7.2 v0 7 ≠ 0)) <| gd (obM q7.2 (grM q7.2 v0 7) 1 9) <| (fH_pageFor (grM q7.2 v0 7) v1 q3.1 q7.2).bind fun q11 => gd (obM q11.2 (grM q7.2 v0 7) 1 9) <| (fH_howFrom (grM q7.2 v0 7) v1 q11.1 q11.2).bind fun q13 => some (q13.1, q13.2)))
def BA_whereIs_22 (w0 : Int32) (M : Mem) : Option (Int32 × Mem) :=
  some (w0, M)
def fA_whereIs (v0 : Int32) (M : Mem) : Option (Int32 × Mem) :=
  if v0 = ((-1)) then (some (0, M)) else (if 48 ≤ v0 then (BA_whereIs_22 4 M) else (BA_whereIs_22 (1 + (v0 - v0 / 3 * 3)) M))
def BC_placeOf_71 (v2 : Int32) (M : Mem) : Option (Int32 × Mem) :=
  some (v2, M)
def BC_placeOf_39 (K : Nat → Int32 → Int32 → Int32 → Mem → Option ((Int32 × Mem))) (v0 : Nat) (v1 : Int32) (v2 : Int32) (v3 : Int32) (M : Mem) : Option ((Int32 × Mem)) :=
  gd (obM M v0 0 4) <| gd (decide (grM M v0 2 ≠ 0)) <| gd (lnI M (grM M v0 2)) <| if (Int32.ofNat (tgM M (grM M v0 2)).2) ≤ v2 then (some (v2, M)) else (if v3 = ((-1)) then (some (v2, M)) else (if v3 = v1 then (some (v2, M)) else (gd (rdI M (grM M v0 2) v3) <| K v0 v1 (v2 + 1) (giM M (grM M v0 2) (Int32.toNatClampNeg v3)) M)))
def LC_placeOf_39 : Nat → Nat → Int32 → Int32 → Int32 → Mem → Option ((Int32 × Mem))
  | 0 => fun _ _ _ _ _ => none
  | f + 1 => BC_placeOf_39 (LC_placeOf_39 f)
def BC_placeOf_23 (M : Mem) : Option (Int32 × Mem) :=
  some ((-1), M)
def fC_placeOf (v0 : Nat) (v1 : Int32) (M : Mem) : Option (Int32 × Mem) :=
  if v1 < 0 then (BC_placeOf_23  M) else (gd (obM M v0 0 4) <| gd (decide (grM M v0 2 ≠ 0)) <| gd (lnI M (grM M v0 2)) <| if (Int32.ofNat (tgM M (grM M v0 2)).2) ≤ v1 then (BC_placeOf_23  M) else (gd (decide (grM M v0 3 ≠ 0)) <| gd (rdI M (grM M v0 3) v1) <| if (giM M (grM M v0 3) (Int32.toNatClampNeg v1)) = ((-1)) then (BC_placeOf_23  M) else (gd (decide (grM M v0 0 ≠ 0)) <| gd (rdI M (grM M v0 0) (giM M (grM M v0 3) (Int32.toNatClampNeg v1))) <| (LC_placeOf_39 1000000 v0 v1 0 (giM M (grM M v0 0) (Int32.toNatClampNeg (giM M (grM M v0 3) (Int32.toNatClampNeg v1)))) M).bind (fun y9 => BC_placeOf_71 y9.1 y9.2))))
def BA_where_140 (w0 : Int32) (M : Mem) : Option (Int32 × Mem) :=
  some (w0, M)
def BA_where_105 (w0 : Int32) (M : Mem) : Option (Int32 × Mem) :=
  some (w0, M)
def fA_where (v0 : Nat) (v1 : Int32) (v2 : Int32) (M : Mem) : Option (Int32 × Mem) :=
  gd (obM M v0 10 15) <| gd (decide (grM M v0 7 ≠ 0)) <| gd (obM M (grM M v0 7) 1 9) <| (fH_isBlock (grM M v0 7) v1 M).bind fun q3 => if q3.1 = 0 then (some ((-1), q3.2)) else (gd (obM q3.2 v0 10 15) <| gd (decide (grM q3.2 v0 7 ≠ 0)) <| gd (obM q3.2 (grM q3.2 v0 7) 1 9) <| (fH_thingOf (grM q3.2 v0 7) v1 q3.2).bind fun q7 => gd (obM q7.2 v0 10 15) <| gd (decide (grM q7.2 v0 7 ≠ 0)) <| gd (obM q7.2 (grM q7.2 v0 7) 1 9) <| gd (decide (grM q7.2 (grM q7.2 v0 7) 5 ≠ 0)) <| gd (obM q7.2 (grM q7.2 (grM q7.2 v0 7) 5) 0 4) <| gd (decide (grM q7.2 (grM q7.2 (grM q7.2 v0 7) 5) 3 ≠ 0)) <| gd (rdI q7.2 (grM q7.2 (grM q7.2 (grM q7.2 v0 7) 5) 3) q7.1) <| if v2 = 0 then ((fA_whereIs (giM q7.2 (grM q7.2 (grM q7.2 (grM q7.2 v0 7) 5) 3) (Int32.toNatClampNeg q7.1)) q7.2).bind fun q16 => some (q16.1, q16.2)) else if v2 = 1 then ((fC_placeOf (grM q7.2 (grM q7.2 v0 7) 5) q7.1 q7.2).bind fun q17 => some (q17.1, q17.2)) else if v2 = 2 then (if 48 ≤ (giM q7.2 (grM q7.2 (grM q7.2 (grM q7.2 v0 7) 5) 3) (Int32.toNatClampNeg q7.1)) then (BA_where_105 (((giM q7.2 (grM q7.2 (grM q7.2 (grM q7.2 v0 7) 5) 3) (Int32.toNatClampNeg q7.1)) - 48) / 16) q7.2) else (BA_where_105 ((-1)) q7.2)) else if v2 = 3 then (if 48 ≤ (giM q7.2 (grM q7.2 (grM q7.2 (grM q7.2 v0 7) 5) 3) (Int32.toNatClampNeg q7.1)) then (gd (decide (grM q7.2 v0 2 ≠ 0)) <| gd (obM q7.2 (grM q7.2 v0 2) 7 3) <| gd (decide (grM q7.2 (grM q7.2 v0 2) 0 ≠ 0)) <| gd (rdI q7.2 (grM q7.2 (grM q7.2 v0 2) 0) 3) <| gd (decide (grM q7.2 (grM q7.2 (grM q7.2 v0 7) 5) 1 ≠ 0)) <| gd (rdI q7.2 (grM q7.2 (grM q7.2 (grM q7.2 v0 7) 5) 1) (giM q7.2 (grM q7.2 (grM q7.2 (grM q7.2 v0 7) 5) 3) (Int32.toNatClampNeg q7.1))) <| BA_where_140 ((giM q7.2 (grM q7.2 (grM q7.2 v0 2) 0) (Int32.toNatClampNeg 3)) - (giM q7.2 (grM q7.2 (grM q7.2 (grM q7.2 v0 7) 5) 1) (Int32.toNatClampNeg (giM q7.2 (grM q7.2 (grM q7.2 (grM q7.2 v0 7) 5) 3) (Int32.toNatClampNeg q7.1))))) q7.2) else (BA_where_140 ((-1)) q7.2)) else (some ((-1), q7.2)))
def BA_series_110 (w0 : Int32) (M : Mem) : Option (Int32 × Mem) :=
  some (w0, M)
def BA_series_99 (v3 : Int32) (v4 : Int32) (M : Mem) : Option (Int32 × Mem) :=
  if v3 = ((-1)) then (BA_series_110 v4 M) else (BA_series_110 ((-1)) M)
def BA_series_53 (K : Nat → Int32 → Int32 → Int32 → Int32 → Int32 → Mem → Option ((Int32 × Mem) ⊕ ((Int32 × Mem) ⊕ (Int32 × Mem)))) (v0 : Nat) (v1 : Int32) (v2 : Int32) (v3 : Int32) (v4 : Int32) (v5 : Int32) (M : Mem) : Option ((Int32 × Mem) ⊕ ((Int32 × Mem) ⊕ (Int32 × Mem))) :=
  if 640 ≤ v5 then (some (.inr (.inr (v4, M)))) else (gd (obM M v0 10 15) <| gd (decide (grM M v0 13 ≠ 0)) <| gd (obM M (grM M v0 13) 1 9) <| (fH_takeBlock (grM M v0 13) v1 v2 M).bind fun q3 => if q3.1 = ((-1)) then (some (.inr (.inl (v4, q3.2)))) else (if v4 = v3 then (some (.inl (q3.1, q3.2))) else (K v0 v1 v2 v3 (v4 + 1) (v5 + 1) q3.2)))
def LA_series_53 : Nat → Nat → Int32 → Int32 → Int32 → Int32 → Int32 → Mem → Option ((Int32 × Mem) ⊕ ((Int32 × Mem) ⊕ (Int32 × Mem)))
  | 0 => fun _ _ _ _ _ _ _ => none
  | f + 1 => BA_series_53 (LA_series_53 f)
def BA_series_34 (M : Mem) : Option (Int32 × Mem) :=
  some ((-1), M)
def fA_series (v0 : Nat) (v1 : Int32) (v2 : Int32) (v3 : Int32) (M : Mem) : Option (Int32 × Mem) :=
  if v3 < ((-1)) then (BA_series_34  M) else (if 100 ≤ v3 then (BA_series_34  M) else (gd (obM M v0 10 15) <| gd (decide (grM M v0 7 ≠ 0)) <| gd (obM M (grM M v0 7) 1 9) <| (fH_isLiving (grM M v0 7) v1 M).bind fun q3 => if q3.1 = 0 then (BA_series_34  q3.2) else (gd (obM q3.2 v0 10 15) <| gd (decide (grM q3.2 v0 2 ≠ 0)) <| gd (obM q3.2 (grM q3.2 v0 2) 7 3) <| (fU_kindFor (grM q3.2 v0 2) v2 q3.2).bind fun q7 => if q7.1 = ((-1)) then (BA_series_34  q7.2) else (gd (obM q7.2 v0 10 15) <| gd (decide (grM q7.2 v0 13 ≠ 0)) <| gd (decide (grM q7.2 v0 7 ≠ 0)) <| gd (obM q7.2 (grM q7.2 v0 13) 1 9) <| (fH_copyFrom (grM q7.2 v0 13) (grM q7.2 v0 7) q7.2).bind fun q12 => (LA_series_53 1000000 v0 v1 v2 v3 0 0 q12).bind (Sum.elim (fun r15 => some r15) (Sum.elim (fun y16 => BA_series_99 v3 y16.1 y16.2) (fun y17 => BA_series_99 v3 y17.1 y17.2)))))))
def BA_cheapestPage_50 (K : Nat → Int32 → Int32 → Int32 → Mem → Option ((Int32 × Mem))) (v0 : Nat) (v1 : Int32) (v2 : Int32) (v3 : Int32) (M : Mem) : Option ((Int32 × Mem)) :=
  K v0 v1 v2 (v3 + 1) M
def BA_cheapestPage_45 (K : Nat → Int32 → Int32 → Int32 → Mem → Option ((Int32 × Mem))) (v0 : Nat) (v3 : Int32) (v4 : Int32) (M : Mem) : Option ((Int32 × Mem)) :=
  BA_cheapestPage_50 K v0 v3 v4 v3 M
def BA_cheapestPage_6 (K : Nat → Int32 → Int32 → Int32 → Mem → Option ((Int32 × Mem))) (v0 : Nat) (v1 : Int32) (v2 : Int32) (v3 : Int32) (M : Mem) : Option ((Int32 × Mem)) :=
  gd (obM M v0 10 15) <| gd (decide (grM M v0 2 ≠ 0)) <| gd (obM M (grM M v0 2) 7 3) <| gd (decide (grM M (grM M v0 2) 0 ≠ 0)) <| gd (rdI M (grM M (grM M v0 2) 0) 1) <| if (giM M (grM M (grM M v0 2) 0) (Int32.toNatClampNeg 1)) ≤ v3 then (some (v1, M)) else (gd (decide (grM M v0 7 ≠ 0)) <| gd (obM M (grM M v0 7) 1 9) <| (fH_usedOf (grM M v0 7) v3 M).bind fun q7 => if q7.1 ≤ 0 then (BA_cheapestPage_50 K v0 v1 v2 v3 q7.2) else (if v1 = ((-1)) then (BA_cheapestPage_45 K v0 v3 q7.1 q7.2) else (if v2 ≤ q7.1 then (BA_cheapestPage_50 K v0 v1 v2 v3 q7.2) else (BA_cheapestPage_45 K v0 v3 q7.1 q7.2))))
def LA_cheapestPage_6 : Nat → Nat → Int32 → Int32 → Int32 → Mem → Option ((Int32 × Mem))
  | 0 => fun _ _ _ _ _ => none
  | f + 1 => BA_cheapestPage_6 (LA_cheapestPage_6 f)
def fA_cheapestPage (v0 : Nat) (M : Mem) : Option (Int32 × Mem) :=
  (LA_cheapestPage_6 1000000 v0 ((-1)) 0 0 M).bind (fun r2 => some r2)
def fA_cheapest (v0 : Nat) (v1 : Int32) (M : Mem) : Option (Int32 × Mem) :=
  gd (obM M v0 10 15) <| (fA_cheapestPage v0 M).bind fun q1 => if q1.1 = ((-1)) then (some ((-1), q1.2)) else (if v1 = 0 then (some (q1.1, q1.2)) else if v1 = 1 then (gd (obM q1.2 v0 10 15) <| gd (decide (grM q1.2 v0 7 ≠ 0)) <| gd (obM q1.2 (grM q1.2 v0 7) 1 9) <| (fH_heldIn (grM q1.2 v0 7) q1.1 q1.2).bind fun q5 => some (q5.1, q5.2)) else (some ((-1), q1.2)))
def BH_pagesInUse_33 (K : Nat → Int32 → Int32 → Mem → Option ((Int32 × Mem))) (v0 : Nat) (v2 : Int32) (w0 : Int32) (w1 : Int32) (M : Mem) : Option ((Int32 × Mem)) :=
  K v0 (w0 + w1) (v2 + 1) M
def BH_pagesInUse_4 (K : Nat → Int32 → Int32 → Mem → Option ((Int32 × Mem))) (v0 : Nat) (v1 : Int32) (v2 : Int32) (M : Mem) : Option ((Int32 × Mem)) :=
  gd (obM M v0 1 9) <| gd (decide (grM M v0 0 ≠ 0)) <| gd (obM M (grM M v0 0) 7 3) <| gd (decide (grM M (grM M v0 0) 0 ≠ 0)) <| gd (rdI M (grM M (grM M v0 0) 0) 1) <| if (giM M (grM M (grM M v0 0) 0) (Int32.toNatClampNeg 1)) ≤ v2 then (some (v1, M)) else (gd (decide (grM M v0 1 ≠ 0)) <| gd (rdI M (grM M v0 1) v2) <| if (giM M (grM M v0 1) (Int32.toNatClampNeg v2)) = ((-1)) then (BH_pagesInUse_33 K v0 v2 v1 0 M) else (BH_pagesInUse_33 K v0 v2 v1 1 M))
def LH_pagesInUse_4 : Nat → Nat → Int32 → Int32 → Mem → Option ((Int32 × Mem))
  | 0 => fun _ _ _ _ => none
  | f + 1 => BH_pagesInUse_4 (LH_pagesInUse_4 f)
def fH_pagesInUse (v0 : Nat) (M : Mem) : Option (Int32 × Mem) :=
  (LH_pagesInUse_4 1000000 v0 0 0 M).bind (fun r2 => some r2)
def BA_run_27 (M : Mem) : Option (Int32 × Mem) :=
  some ((-1), M)
def fA_run (v0 : Nat) (v1 : Int32) (v2 : Int32) (M : Mem) : Option (Int32 × Mem) :=
  gd (obM M v0 10 15) <| gd (decide (grM M v0 2 ≠ 0)) <| gd (obM M (grM M v0 2) 7 3) <| (fU_areTold (grM M v0 2) M).bind fun q3 => if q3.1 = 0 then (BA_run_27  q3.2) else (gd (obM q3.2 v0 10 15) <| (fA_isScript v0 v1 q3.2).bind fun q5 => if q5.1 = 0 then (BA_run_27  q5.2) else (if v2 < 0 then (BA_run_27  q5.2) else (if v2 ≤ 2 then (gd (obM q5.2 v0 10 15) <| gd (decide (grM q5.2 v0 13 ≠ 0)) <| gd (decide (grM q5.2 v0 7 ≠ 0)) <| gd (obM q5.2 (grM q5.2 v0 13) 1 9) <| (fH_copyFrom (grM q5.2 v0 13) (grM q5.2 v0 7) q5.2).bind fun q10 => gd (obM q10 v0 10 15) <| gd (decide (grM q10 v0 14 ≠ 0)) <| gd (decide (grM q10 v0 13 ≠ 0)) <| gd (decide (grM q10 v0 4 ≠ 0)) <| gd (wrT 104 q10 (grM q10 v0 4) v1) <| gd (decide (grM q10 (grM q10 v0 4) (Int32.toNatClampNeg v1) ≠ 0)) <| gd (obM q10 (grM q10 v0 14) 5 5) <| (fG_runWhole (grM q10 v0 14) (grM q10 v0 13) (grM q10 (grM q10 v0 4) (Int32.toNatClampNeg v1)) q10).bind fun q18 => if v2 = 0 then (some (q18.1, q18.2)) else if v2 = 1 then (gd (obM q18.2 v0 10 15) <| gd (decide (grM q18.2 v0 13 ≠ 0)) <| gd (obM q18.2 (grM q18.2 v0 13) 1 9) <| (fH_pagesInUse (grM q18.2 v0 13) q18.2).bind fun q22 => some (q22.1, q22.2)) else (gd (obM q18.2 v0 10 15) <| gd (decide (grM q18.2 v0 13 ≠ 0)) <| gd (obM q18.2 (grM q18.2 v0 13) 1 9) <| (fH_heldInAll (grM q18.2 v0 13) q18.2).bind fun q26 => some (q26.1, q26.2))) else (BA_run_27  q5.2))))
def BS_isMixable_53 (w0 : Int32) (M : Mem) : Option (Int32 × Mem) :=
  gd (decide (w0 = 0 ∨ w0 = 1)) <| some (w0, M)
def BS_isMixable_31 (M : Mem) : Option (Int32 × Mem) :=
  some (0, M)
def BS_isMixable_2 (K : Nat → Int32 → Mem → Option ((Mem) ⊕ (Mem))) (v0 : Nat) (v1 : Int32) (M : Mem) : Option ((Mem) ⊕ (Mem)) :=
  gd (obM M v0 8 4) <| if (giM M v0 3) ≤ v1 then (some (.inr M)) else (gd (decide (grM M v0 0 ≠ 0)) <| gd (rdI M (grM M v0 0) v1) <| if (giM M (grM M v0 0) (Int32.toNatClampNeg v1)) = 5 then (some (.inl M)) else (if (giM M (grM M v0 0) (Int32.toNatClampNeg v1)) = 6 then (some (.inl M)) else (K v0 (v1 + 1) M)))
def LS_isMixable_2 : Nat → Nat → Int32 → Mem → Option ((Mem) ⊕ (Mem))
  | 0 => fun _ _ _ => none
  | f + 1 => BS_isMixable_2 (LS_isMixable_2 f)
def fS_isMixable (v0 : Nat) (M : Mem) : Option (Int32 × Mem) :=
  (LS_isMixable_2 1000000 v0 0 M).bind (Sum.elim (fun y2 => BS_isMixable_31  y2) (fun y3 => gd (obM y3 v0 8 4) <| if 6 < (giM y3 v0 3) then (BS_isMixable_53 0 y3) else (BS_isMixable_53 1 y3)))
def fX_begin (v0 : Nat) (v1 : Nat) (v2 : Nat) (v3 : Nat) (M : Mem) : Option (Mem) :=
  gd (obM M v0 3 9) <| gd (decide (v2 ≠ 0)) <| gd (decide (v3 ≠ 0)) <| gd (decide (grM (srM (srM M v0 3 v2) v0 4 v3) v0 0 ≠ 0)) <| gd (wrT 103 M (grM (srM (srM M v0 3 v2) v0 4 v3) v0 0) 0) <| gd (decide (grM (srM (srM M v0 3 v2) v0 4 v3) (grM (srM (srM M v0 3 v2) v0 4 v3) v0 0) (Int32.toNatClampNeg 0) ≠ 0)) <| gd (obM M (grM (srM (srM M v0 3 v2) v0 4 v3) (grM (srM (srM M v0 3 v2) v0 4 v3) v0 0) (Int32.toNatClampNeg 0)) 1 9) <| (fH_copyFrom (grM (srM (srM M v0 3 v2) v0 4 v3) (grM (srM (srM M v0 3 v2) v0 4 v3) v0 0) (Int32.toNatClampNeg 0)) v1 (srM (srM M v0 3 v2) v0 4 v3)).bind fun q7 => gd (obM q7 v0 3 9) <| gd (decide (grM q7 v0 1 ≠ 0)) <| gd (wrT 105 q7 (grM q7 v0 1) 0) <| gd (decide (grM q7 (grM q7 v0 1) (Int32.toNatClampNeg 0) ≠ 0)) <| gd (obM q7 (grM q7 (grM q7 v0 1) (Int32.toNatClampNeg 0)) 5 5) <| (fG_restart (grM q7 (grM q7 v0 1) (Int32.toNatClampNeg 0)) q7).bind fun q13 => gd (obM q13 v0 3 9) <| gd (decide (grM q13 v0 2 ≠ 0)) <| gd (wrT 105 q13 (grM q13 v0 2) 0) <| gd (decide (grM q13 (grM q13 v0 2) (Int32.toNatClampNeg 0) ≠ 0)) <| gd (obM q13 (grM q13 (grM q13 v0 2) (Int32.toNatClampNeg 0)) 5 5) <| (fG_restart (grM q13 (grM q13 v0 2) (Int32.toNatClampNeg 0)) q13).bind fun q19 => gd (obM q19 v0 3 9) <| some (siM (siM (siM (siM q19 v0 5 0) v0 6 0) v0 7 0) v0 8 16)
def fX_tally (v0 : Nat) (v1 : Nat) (v2 : Int32) (M : Mem) : Option (Mem) :=
  gd (obM M v1 1 9) <| (fH_pagesInUse v1 M).bind fun q1 => gd (obM q1.2 v0 3 9) <| (fK_max (giM (siM q1.2 v0 5 ((giM q1.2 v0 5) + v2)) v0 7) q1.1 (siM q1.2 v0 5 ((giM q1.2 v0 5) + v2))).bind fun q4 => gd (obM q4.2 v0 3 9) <| (fK_min (giM (siM q4.2 v0 7 q4.1) v0 8) q1.1 (siM q4.2 v0 7 q4.1)).bind fun q6 => gd (obM q6.2 v0 3 9) <| some (siM q6.2 v0 8 q6.1)
def fG_copyFrom (v0 : Nat) (v1 : Nat) (M : Mem) : Option (Mem) :=
  gd (obM M v1 5 5) <| gd (decide (grM M v1 0 ≠ 0)) <| gd (obM M v0 5 5) <| gd (decide (grM M v0 0 ≠ 0)) <| gd (cpM M (grM M v1 0) 0 (grM M v0 0) 0 24) <| gd (decide (grM M v1 1 ≠ 0)) <| gd (decide (grM M v0 1 ≠ 0)) <| gd (cpM M (grM M v1 1) 0 (grM M v0 1) 0 24) <| gd (decide (grM M v1 2 ≠ 0)) <| gd (decide (grM M v0 2 ≠ 0)) <| gd (cpM M (grM M v1 2) 0 (grM M v0 2) 0 24) <| some (siM (siM (saM (saM (saM M (grM M v0 0) (va_cpy (giM M (grM M v1 0)) (giM M (grM M v0 0)) (Int32.toNatClampNeg 0) (Int32.toNatClampNeg 0) (Int32.toNatClampNeg 24))) (grM M v0 1) (va_cpy (giM (saM M (grM M v0 0) (va_cpy (giM M (grM M v1 0)) (giM M (grM M v0 0)) (Int32.toNatClampNeg 0) (Int32.toNatClampNeg 0) (Int32.toNatClampNeg 24))) (grM M v1 1)) (giM (saM M (grM M v0 0) (va_cpy (giM M (grM M v1 0)) (giM M (grM M v0 0)) (Int32.toNatClampNeg 0) (Int32.toNatClampNeg 0) (Int32.toNatClampNeg 24))) (grM M v0 1)) (Int32.toNatClampNeg 0) (Int32.toNatClampNeg 0) (Int32.toNatClampNeg 24))) (grM M v0 2) (va_cpy (giM (saM (saM M (grM M v0 0) (va_cpy (giM M (grM M v1 0)) (giM M (grM M v0 0)) (Int32.toNatClampNeg 0) (Int32.toNatClampNeg 0) (Int32.toNatClampNeg 24))) (grM M v0 1) (va_cpy (giM (saM M (grM M v0 0) (va_cpy (giM M (grM M v1 0)) (giM M (grM M v0 0)) (Int32.toNatClampNeg 0) (Int32.toNatClampNeg 0) (Int32.toNatClampNeg 24))) (grM M v1 1)) (giM (saM M (grM M v0 0) (va_cpy (giM M (grM M v1 0)) (giM M (grM M v0 0)) (Int32.toNatClampNeg 0) (Int32.toNatClampNeg 0) (Int32.toNatClampNeg 24))) (grM M v0 1)) (Int32.toNatClampNeg 0) (Int32.toNatClampNeg 0) (Int32.toNatClampNeg 24))) (grM M v1 2)) (giM (saM (saM M (grM M v0 0) (va_cpy (giM M (grM M v1 0)) (giM M (grM M v0 0)) (Int32.toNatClampNeg 0) (Int32.toNatClampNeg 0) (Int32.toNatClampNeg 24))) (grM M v0 1) (va_cpy (giM (saM M (grM M v0 0) (va_cpy (giM M (grM M v1 0)) (giM M (grM M v0 0)) (Int32.toNatClampNeg 0) (Int32.toNatClampNeg 0) (Int32.toNatClampNeg 24))) (grM M v1 1)) (giM (saM M (grM M v0 0) (va_cpy (giM M (grM M v1 0)) (giM M (grM M v0 0)) (Int32.toNatClampNeg 0) (Int32.toNatClampNeg 0) (Int32.toNatClampNeg 24))) (grM M v0 1)) (Int32.toNatClampNeg 0) (Int32.toNatClampNeg 0) (Int32.toNatClampNeg 24))) (grM M v0 2)) (Int32.toNatClampNeg 0) (Int32.toNatClampNeg 0) (Int32.toNatClampNeg 24))) v0 3 (giM (saM (saM (saM M (grM M v0 0) (va_cpy (giM M (grM M v1 0)) (giM M (grM M v0 0)) (Int32.toNatClampNeg 0) (Int32.toNatClampNeg 0) (Int32.toNatClampNeg 24))) (grM M v0 1) (va_cpy (giM (saM M (grM M v0 0) (va_cpy (giM M (grM M v1 0)) (giM M (grM M v0 0)) (Int32.toNatClampNeg 0) (Int32.toNatClampNeg 0) (Int32.toNatClampNeg 24))) (grM M v1 1)) (giM (saM M (grM M v0 0) (va_cpy (giM M (grM M v1 0)) (giM M (grM M v0 0)) (Int32.toNatClampNeg 0) (Int32.toNatClampNeg 0) (Int32.toNatClampNeg 24))) (grM M v0 1)) (Int32.toNatClampNeg 0) (Int32.toNatClampNeg 0) (Int32.toNatClampNeg 24))) (grM M v0 2) (va_cpy (giM (saM (saM M (grM M v0 0) (va_cpy (giM M (grM M v1 0)) (giM M (grM M v0 0)) (Int32.toNatClampNeg 0) (Int32.toNatClampNeg 0) (Int32.toNatClampNeg 24))) (grM M v0 1) (va_cpy (giM (saM M (grM M v0 0) (va_cpy (giM M (grM M v1 0)) (giM M (grM M v0 0)) (Int32.toNatClampNeg 0) (Int32.toNatClampNeg 0) (Int32.toNatClampNeg 24))) (grM M v1 1)) (giM (saM M (grM M v0 0) (va_cpy (giM M (grM M v1 0)) (giM M (grM M v0 0)) (Int32.toNatClampNeg 0) (Int32.toNatClampNeg 0) (Int32.toNatClampNeg 24))) (grM M v0 1)) (Int32.toNatClampNeg 0) (Int32.toNatClampNeg 0) (Int32.toNatClampNeg 24))) (grM M v1 2)) (giM (saM (saM M (grM M v0 0) (va_cpy (giM M (grM M v1 0)) (giM M (grM M v0 0)) (Int32.toNatClampNeg 0) (Int32.toNatClampNeg 0) (Int32.toNatClampNeg 24))) (grM M v0 1) (va_cpy (giM (saM M (grM M v0 0) (va_cpy (giM M (grM M v1 0)) (giM M (grM M v0 0)) (Int32.toNatClampNeg 0) (Int32.toNatClampNeg 0) (Int32.toNatClampNeg 24))) (grM M v1 1)) (giM (saM M (grM M v0 0) (va_cpy (giM M (grM M v1 0)) (giM M (grM M v0 0)) (Int32.toNatClampNeg 0) (Int32.toNatClampNeg 0) (Int32.toNatClampNeg 24))) (grM M v0 1)) (Int32.toNatClampNeg 0) (Int32.toNatClampNeg 0) (Int32.toNatClampNeg 24))) (grM M v0 2)) (Int32.toNatClampNeg 0) (Int32.toNatClampNeg 0) (Int32.toNatClampNeg 24))) v1 3)) v0 4 (giM (siM (saM (saM (saM M (grM M v0 0) (va_cpy (giM M (grM M v1 0)) (giM M (grM M v0 0)) (Int32.toNatClampNeg 0) (Int32.toNatClampNeg 0) (Int32.toNatClampNeg 24))) (grM M v0 1) (va_cpy (giM (saM M (grM M v0 0) (va_cpy (giM M (grM M v1 0)) (giM M (grM M v0 0)) (Int32.toNatClampNeg 0) (Int32.toNatClampNeg 0) (Int32.toNatClampNeg 24))) (grM M v1 1)) (giM (saM M (grM M v0 0) (va_cpy (giM M (grM M v1 0)) (giM M (grM M v0 0)) (Int32.toNatClampNeg 0) (Int32.toNatClampNeg 0) (Int32.toNatClampNeg 24))) (grM M v0 1)) (Int32.toNatClampNeg 0) (Int32.toNatClampNeg 0) (Int32.toNatClampNeg 24))) (grM M v0 2) (va_cpy (giM (saM (saM M (grM M v0 0) (va_cpy (giM M (grM M v1 0)) (giM M (grM M v0 0)) (Int32.toNatClampNeg 0) (Int32.toNatClampNeg 0) (Int32.toNatClampNeg 24))) (grM M v0 1) (va_cpy (giM (saM M (grM M v0 0) (va_cpy (giM M (grM M v1 0)) (giM M (grM M v0 0)) (Int32.toNatClampNeg 0) (Int32.toNatClampNeg 0) (Int32.toNatClampNeg 24))) (grM M v1 1)) (giM (saM M (grM M v0 0) (va_cpy (giM M (grM M v1 0)) (giM M (grM M v0 0)) (Int32.toNatClampNeg 0) (Int32.toNatClampNeg 0) (Int32.toNatClampNeg 24))) (grM M v0 1)) (Int32.toNatClampNeg 0) (Int32.toNatClampNeg 0) (Int32.toNatClampNeg 24))) (grM M v1 2)) (giM (saM (saM M (grM M v0 0) (va_cpy (giM M (grM M v1 0)) (giM M (grM M v0 0)) (Int32.toNatClampNeg 0) (Int32.toNatClampNeg 0) (Int32.toNatClampNeg 24))) (grM M v0 1) (va_cpy (giM (saM M (grM M v0 0) (va_cpy (giM M (grM M v1 0)) (giM M (grM M v0 0)) (Int32.toNatClampNeg 0) (Int32.toNatClampNeg 0) (Int32.toNatClampNeg 24))) (grM M v1 1)) (giM (saM M (grM M v0 0) (va_cpy (giM M (grM M v1 0)) (giM M (grM M v0 0)) (Int32.toNatClampNeg 0) (Int32.toNatClampNeg 0) (Int32.toNatClampNeg 24))) (grM M v0 1)) (Int32.toNatClampNeg 0) (Int32.toNatClampNeg 0) (Int32.toNatClampNeg 24))) (grM M v0 2)) (Int32.toNatClampNeg 0) (Int32.toNatClampNeg 0) (Int32.toNatClampNeg 24))) v0 3 (giM (saM (saM (saM M (grM M v0 0) (va_cpy (giM M (grM M v1 0)) (giM M (grM M v0 0)) (Int32.toNatClampNeg 0) (Int32.toNatClampNeg 0) (Int32.toNatClampNeg 24))) (grM M v0 1) (va_cpy (giM (saM M (grM M v0 0) (va_cpy (giM M (grM M v1 0)) (giM M (grM M v0 0)) (Int32.toNatClampNeg 0) (Int32.toNatClampNeg 0) (Int32.toNatClampNeg 24))) (grM M v1 1)) (giM (saM M (grM M v0 0) (va_cpy (giM M (grM M v1 0)) (giM M (grM M v0 0)) (Int32.toNatClampNeg 0) (Int32.toNatClampNeg 0) (Int32.toNatClampNeg 24))) (grM M v0 1)) (Int32.toNatClampNeg 0) (Int32.toNatClampNeg 0) (Int32.toNatClampNeg 24))) (grM M v0 2) (va_cpy (giM (saM (saM M (grM M v0 0) (va_cpy (giM M (grM M v1 0)) (giM M (grM M v0 0)) (Int32.toNatClampNeg 0) (Int32.toNatClampNeg 0) (Int32.toNatClampNeg 24))) (grM M v0 1) (va_cpy (giM (saM M (grM M v0 0) (va_cpy (giM M (grM M v1 0)) (giM M (grM M v0 0)) (Int32.toNatClampNeg 0) (Int32.toNatClampNeg 0) (Int32.toNatClampNeg 24))) (grM M v1 1)) (giM (saM M (grM M v0 0) (va_cpy (giM M (grM M v1 0)) (giM M (grM M v0 0)) (Int32.toNatClampNeg 0) (Int32.toNatClampNeg 0) (Int32.toNatClampNeg 24))) (grM M v0 1)) (Int32.toNatClampNeg 0) (Int32.toNatClampNeg 0) (Int32.toNatClampNeg 24))) (grM M v1 2)) (giM (saM (saM M (grM M v0 0) (va_cpy (giM M (grM M v1 0)) (giM M (grM M v0 0)) (Int32.toNatClampNeg 0) (Int32.toNatClampNeg 0) (Int32.toNatClampNeg 24))) (grM M v0 1) (va_cpy (giM (saM M (grM M v0 0) (va_cpy (giM M (grM M v1 0)) (giM M (grM M v0 0)) (Int32.toNatClampNeg 0) (Int32.toNatClampNeg 0) (Int32.toNatClampNeg 24))) (grM M v1 1)) (giM (saM M (grM M v0 0) (va_cpy (giM M (grM M v1 0)) (giM M (grM M v0 0)) (Int32.toNatClampNeg 0) (Int32.toNatClampNeg 0) (Int32.toNatClampNeg 24))) (grM M v0 1)) (Int32.toNatClampNeg 0) (Int32.toNatClampNeg 0) (Int32.toNatClampNeg 24))) (grM M v0 2)) (Int32.toNatClampNeg 0) (Int32.toNatClampNeg 0) (Int32.toNatClampNeg 24))) v1 3)) v1 4))
def fX_deepen (v0 : Nat) (v1 : Int32) (M : Mem) : Option (Int32 × Mem) :=
  gd (obM M v0 3 9) <| gd (decide (grM M v0 0 ≠ 0)) <| gd (lnT 103 M (grM M v0 0)) <| (fK_min (v1 + 1) ((Int32.ofNat (tgM M (grM M v0 0)).2) - 1) M).bind fun q4 => gd (obM q4.2 v0 3 9) <| gd (decide (grM q4.2 v0 0 ≠ 0)) <| gd (wrT 103 q4.2 (grM q4.2 v0 0) q4.1) <| gd (decide (grM q4.2 (grM q4.2 v0 0) (Int32.toNatClampNeg q4.1) ≠ 0)) <| gd (wrT 103 q4.2 (grM q4.2 v0 0) v1) <| gd (decide (grM q4.2 (grM q4.2 v0 0) (Int32.toNatClampNeg v1) ≠ 0)) <| gd (obM q4.2 (grM q4.2 (grM q4.2 v0 0) (Int32.toNatClampNeg q4.1)) 1 9) <| (fH_copyFrom (grM q4.2 (grM q4.2 v0 0) (Int32.toNatClampNeg q4.1)) (grM q4.2 (grM q4.2 v0 0) (Int32.toNatClampNeg v1)) q4.2).bind fun q11 => gd (obM q11 v0 3 9) <| gd (decide (grM q11 v0 1 ≠ 0)) <| gd (wrT 105 q11 (grM q11 v0 1) q4.1) <| gd (decide (grM q11 (grM q11 v0 1) (Int32.toNatClampNeg q4.1) ≠ 0)) <| gd (wrT 105 q11 (grM q11 v0 1) v1) <| gd (decide (grM q11 (grM q11 v0 1) (Int32.toNatClampNeg v1) ≠ 0)) <| gd (obM q11 (grM q11 (grM q11 v0 1) (Int32.toNatClampNeg q4.1)) 5 5) <| (fG_copyFrom (grM q11 (grM q11 v0 1) (Int32.toNatClampNeg q4.1)) (grM q11 (grM q11 v0 1) (Int32.toNatClampNeg v1)) q11).bind fun q19 => gd (obM q19 v0 3 9) <| gd (decide (grM q19 v0 2 ≠ 0)) <| gd (wrT 105 q19 (grM q19 v0 2) q4.1) <| gd (decide (grM q19 (grM q19 v0 2) (Int32.toNatClampNeg q4.1) ≠ 0)) <| gd (wrT 105 q19 (grM q19 v0 2) v1) <| gd (decide (grM q19 (grM q19 v0 2) (Int32.toNatClampNeg v1) ≠ 0)) <| gd (obM q19 (grM q19 (grM q19 v0 2) (Int32.toNatClampNeg q4.1)) 5 5) <| (fG_copyFrom (grM q19 (grM q19 v0 2) (Int32.toNatClampNeg q4.1)) (grM q19 (grM q19 v0 2) (Int32.toNatClampNeg v1)) q19).bind fun q27 => some (q4.1, q27)
def BX_waysOf_4 (K : Int32 → Int32 → Int32 → Int32 → Mem → Option ((Int32 × Mem))) (v0 : Int32) (v1 : Int32) (v2 : Int32) (v3 : Int32) (M : Mem) : Option ((Int32 × Mem)) :=
  if v1 < v3 then (some (v2, M)) else (gd (decide (¬ v3 = 0)) <| K v0 v1 ((v2 * (v0 + v3)) / v3) (v3 + 1) M)
def LX_waysOf_4 : Nat → Int32 → Int32 → Int32 → Int32 → Mem → Option ((Int32 × Mem))
  | 0 => fun _ _ _ _ _ => none
  | f + 1 => BX_waysOf_4 (LX_waysOf_4 f)
def fX_waysOf (v0 : Int32) (v1 : Int32) (M : Mem) : Option (Int32 × Mem) :=
  (LX_waysOf_4 1000000 v0 v1 1 1 M).bind (fun r2 => some r2)
def BX_mix_214 (self : Nat → Int32 → Int32 → Int32 → Mem → Option (Mem)) (M : Mem) : Option (Mem) :=
  some M
def BX_mix_155 (self : Nat → Int32 → Int32 → Int32 → Mem → Option (Mem)) (v0 : Nat) (v1 : Int32) (v2 : Int32) (v3 : Int32) (v4 : Int32) (v5 : Int32) (M : Mem) : Option (Mem) :=
  if v5 ≤ 0 then (BX_mix_214 self  M) else (gd (obM M v0 3 9) <| gd (decide (grM M v0 2 ≠ 0)) <| gd (wrT 105 M (grM M v0 2) v1) <| gd (decide (grM M (grM M v0 2) (Int32.toNatClampNeg v1) ≠ 0)) <| gd (decide (grM M v0 0 ≠ 0)) <| gd (wrT 103 M (grM M v0 0) v1) <| gd (decide (grM M (grM M v0 0) (Int32.toNatClampNeg v1) ≠ 0)) <| gd (decide (grM M v0 4 ≠ 0)) <| gd (obM M (grM M (grM M v0 2) (Int32.toNatClampNeg v1)) 5 5) <| (fG_doStep (grM M (grM M v0 2) (Int32.toNatClampNeg v1)) (grM M (grM M v0 0) (Int32.toNatClampNeg v1)) (grM M v0 4) v3 M).bind fun q9 => if q9.1 = 0 then (gd (obM q9.2 v0 3 9) <| gd (decide (grM q9.2 v0 0 ≠ 0)) <| gd (wrT 103 q9.2 (grM q9.2 v0 0) v1) <| gd (decide (grM q9.2 (grM q9.2 v0 0) (Int32.toNatClampNeg v1) ≠ 0)) <| (fX_waysOf v4 (v5 - 1) q9.2).bind fun q15 => gd (obM q15.2 v0 3 9) <| (fX_tally v0 (grM q9.2 (grM q9.2 v0 0) (Int32.toNatClampNeg v1)) q15.1 q15.2).bind fun q16 => BX_mix_214 self  q16) else (gd (obM q9.2 v0 3 9) <| (self v0 v1 v2 (v3 + 1) q9.2).bind fun q18 => BX_mix_214 self  q18))
def BX_mix_95 (self : Nat → Int32 → Int32 → Int32 → Mem → Option (Mem)) (v0 : Nat) (v1 : Int32) (v2 : Int32) (v3 : Int32) (v4 : Int32) (v5 : Int32) (w0 : Int32) (M : Mem) : Option (Mem) :=
  gd (obM M v0 3 9) <| gd (decide (grM M v0 1 ≠ 0)) <| gd (wrT 105 M (grM M v0 1) w0) <| gd (decide (grM M (grM M v0 1) (Int32.toNatClampNeg w0) ≠ 0)) <| gd (decide (grM M v0 0 ≠ 0)) <| gd (wrT 103 M (grM M v0 0) w0) <| gd (decide (grM M (grM M v0 0) (Int32.toNatClampNeg w0) ≠ 0)) <| gd (decide (grM M v0 3 ≠ 0)) <| gd (obM M (grM M (grM M v0 1) (Int32.toNatClampNeg w0)) 5 5) <| (fG_doStep (grM M (grM M v0 1) (Int32.toNatClampNeg w0)) (grM M (grM M v0 0) (Int32.toNatClampNeg w0)) (grM M v0 3) v2 M).bind fun q9 => if q9.1 = 0 then (gd (obM q9.2 v0 3 9) <| gd (decide (grM q9.2 v0 0 ≠ 0)) <| gd (wrT 103 q9.2 (grM q9.2 v0 0) w0) <| gd (decide (grM q9.2 (grM q9.2 v0 0) (Int32.toNatClampNeg w0) ≠ 0)) <| (fX_waysOf (v4 - 1) v5 q9.2).bind fun q15 => gd (obM q15.2 v0 3 9) <| (fX_tally v0 (grM q9.2 (grM q9.2 v0 0) (Int32.toNatClampNeg w0)) q15.1 q15.2).bind fun q16 => BX_mix_155 self v0 v1 v2 v3 v4 v5 q16) else (gd (obM q9.2 v0 3 9) <| (self v0 w0 (v2 + 1) v3 q9.2).bind fun q18 => BX_mix_155 self v0 v1 v2 v3 v4 v5 q18)
def BX_mix_76 (self : Nat → Int32 → Int32 → Int32 → Mem → Option (Mem)) (v0 : Nat) (v1 : Int32) (v2 : Int32) (v3 : Int32) (v4 : Int32) (v5 : Int32) (M : Mem) : Option (Mem) :=
  if v4 ≤ 0 then (BX_mix_155 self v0 v1 v2 v3 v4 v5 M) else (if v5 ≤ 0 then (BX_mix_95 self v0 v1 v2 v3 v4 v5 v1 M) else (gd (obM M v0 3 9) <| (fX_deepen v0 v1 M).bind fun q1 => BX_mix_95 self v0 v1 v2 v3 v4 v5 q1.1 q1.2))
def BX_mix_21 (self : Nat → Int32 → Int32 → Int32 → Mem → Option (Mem)) (M : Mem) : Option (Mem) :=
  some M
def gX_mix (self : Nat → Int32 → Int32 → Int32 → Mem → Option (Mem)) (v0 : Nat) (v1 : Int32) (v2 : Int32) (v3 : Int32) (M : Mem) : Option (Mem) :=
  gd (obM M v0 3 9) <| gd (decide (grM M v0 0 ≠ 0)) <| gd (lnT 103 M (grM M v0 0)) <| if (Int32.ofNat (tgM M (grM M v0 0)).2) ≤ v1 then (BX_mix_21 self  M) else (if 6 < v2 then (BX_mix_21 self  M) else (if v3 ≤ 6 then (gd (decide (grM M v0 3 ≠ 0)) <| gd (obM M (grM M v0 3) 8 4) <| gd (decide (grM M v0 4 ≠ 0)) <| gd (obM M (grM M v0 4) 8 4) <| if 0 < ((giM M (grM M v0 3) 3) - v2) then (BX_mix_76 self v0 v1 v2 v3 ((giM M (grM M v0 3) 3) - v2) ((giM M (grM M v0 4) 3) - v3) M) else (if 0 < ((giM M (grM M v0 4) 3) - v3) then (BX_mix_76 self v0 v1 v2 v3 ((giM M (grM M v0 3) 3) - v2) ((giM M (grM M v0 4) 3) - v3) M) else (gd (wrT 103 M (grM M v0 0) v1) <| gd (decide (grM M (grM M v0 0) (Int32.toNatClampNeg v1) ≠ 0)) <| (fX_tally v0 (grM M (grM M v0 0) (Int32.toNatClampNeg v1)) 1 (siM M v0 6 ((giM M v0 6) + 1))).bind fun q10 => some q10))) else (BX_mix_21 self  M)))
def fX_mix : Nat → Nat → Int32 → Int32 → Int32 → Mem → Option (Mem)
  | 0 => fun _ _ _ _ _ => none
  | f + 1 => gX_mix (fX_mix f)
def BA_ways_66 (M : Mem) : Option (Int32 × Mem) :=
  some ((-1), M)
def BA_ways_40 (M : Mem) : Option (Int32 × Mem) :=
  some ((-1), M)
def fA_ways (v0 : Nat) (v1 : Int32) (v2 : Int32) (v3 : Int32) (M : Mem) : Option (Int32 × Mem) :=
  gd (obM M v0 10 15) <| gd (decide (grM M v0 2 ≠ 0)) <| gd (obM M (grM M v0 2) 7 3) <| (fU_areTold (grM M v0 2) M).bind fun q3 => if q3.1 = 0 then (BA_ways_40  q3.2) else (gd (obM q3.2 v0 10 15) <| (fA_isScript v0 v1 q3.2).bind fun q5 => if q5.1 = 0 then (BA_ways_40  q5.2) else (gd (obM q5.2 v0 10 15) <| (fA_isScript v0 v2 q5.2).bind fun q7 => if q7.1 = 0 then (BA_ways_40  q7.2) else (if v1 = v2 then (BA_ways_40  q7.2) else (if v3 < 0 then (BA_ways_40  q7.2) else (if v3 ≤ 3 then (gd (obM q7.2 v0 10 15) <| gd (decide (grM q7.2 v0 4 ≠ 0)) <| gd (wrT 104 q7.2 (grM q7.2 v0 4) v1) <| gd (decide (grM q7.2 (grM q7.2 v0 4) (Int32.toNatClampNeg v1) ≠ 0)) <| gd (obM q7.2 (grM q7.2 (grM q7.2 v0 4) (Int32.toNatClampNeg v1)) 8 4) <| (fS_isMixable (grM q7.2 (grM q7.2 v0 4) (Int32.toNatClampNeg v1)) q7.2).bind fun q13 => if q13.1 = 0 then (BA_ways_66  q13.2) else (gd (obM q13.2 v0 10 15) <| gd (decide (grM q13.2 v0 4 ≠ 0)) <| gd (wrT 104 q13.2 (grM q13.2 v0 4) v2) <| gd (decide (grM q13.2 (grM q13.2 v0 4) (Int32.toNatClampNeg v2) ≠ 0)) <| gd (obM q13.2 (grM q13.2 (grM q13.2 v0 4) (Int32.toNatClampNeg v2)) 8 4) <| (fS_isMixable (grM q13.2 (grM q13.2 v0 4) (Int32.toNatClampNeg v2)) q13.2).bind fun q19 => if q19.1 = 0 then (BA_ways_66  q19.2) else (gd (obM q19.2 v0 10 15) <| gd (decide (grM q19.2 v0 12 ≠ 0)) <| gd (decide (grM q19.2 v0 7 ≠ 0)) <| gd (decide (grM q19.2 v0 4 ≠ 0)) <| gd (wrT 104 q19.2 (grM q19.2 v0 4) v1) <| gd (decide (grM q19.2 (grM q19.2 v0 4) (Int32.toNatClampNeg v1) ≠ 0)) <| gd (wrT 104 q19.2 (grM q19.2 v0 4) v2) <| gd (decide (grM q19.2 (grM q19.2 v0 4) (Int32.toNatClampNeg v2) ≠ 0)) <| gd (obM q19.2 (grM q19.2 v0 12) 3 9) <| (fX_begin (grM q19.2 v0 12) (grM q19.2 v0 7) (grM q19.2 (grM q19.2 v0 4) (Int32.toNatClampNeg v1)) (grM q19.2 (grM q19.2 v0 4) (Int32.toNatClampNeg v2)) q19.2).bind fun q29 => gd (obM q29 v0 10 15) <| gd (decide (grM q29 v0 12 ≠ 0)) <| gd (obM q29 (grM q29 v0 12) 3 9) <| (fX_mix 20 (grM q29 v0 12) 0 0 0 q29).bind fun q33 => if v3 = 0 then (gd (obM q33 v0 10 15) <| gd (decide (grM q33 v0 12 ≠ 0)) <| gd (obM q33 (grM q33 v0 12) 3 9) <| some (giM q33 (grM q33 v0 12) 5, q33)) else if v3 = 1 then (gd (obM q33 v0 10 15) <| gd (decide (grM q33 v0 12 ≠ 0)) <| gd (obM q33 (grM q33 v0 12) 3 9) <| some (giM q33 (grM q33 v0 12) 6, q33)) else if v3 = 2 then (gd (obM q33 v0 10 15) <| gd (decide (grM q33 v0 12 ≠ 0)) <| gd (obM q33 (grM q33 v0 12) 3 9) <| some (giM q33 (grM q33 v0 12) 7, q33)) else (gd (obM q33 v0 10 15) <| gd (decide (grM q33 v0 12 ≠ 0)) <| gd (obM q33 (grM q33 v0 12) 3 9) <| some (giM q33 (grM q33 v0 12) 8, q33))))) else (BA_ways_40  q7.2))))))
def BA_shares_111 (w0 : Int32) (M : Mem) : Option (Int32 × Mem) :=
  some (w0, M)
def BA_shares_88 (K : Nat → Int32 → Int32 → Int32 → Int32 → Int32 → Mem → Option ((Int32 × Int32 × Mem))) (v0 : Nat) (v1 : Int32) (v2 : Int32) (v4 : Int32) (v5 : Int32) (w0 : Int32) (w1 : Int32) (M : Mem) : Option ((Int32 × Int32 × Mem)) :=
  K v0 v1 v2 (w0 + w1) v4 (v5 + 1) M
def BA_shares_32 (K : Nat → Int32 → Int32 → Int32 → Int32 → Int32 → Mem → Option ((Int32 × Int32 × Mem))) (v0 : Nat) (v1 : Int32) (v2 : Int32) (v3 : Int32) (v4 : Int32) (v5 : Int32) (M : Mem) : Option ((Int32 × Int32 × Mem)) :=
  gd (obM M v0 10 15) <| gd (decide (grM M v0 2 ≠ 0)) <| gd (obM M (grM M v0 2) 7 3) <| gd (decide (grM M (grM M v0 2) 0 ≠ 0)) <| gd (rdI M (grM M (grM M v0 2) 0) 1) <| if (giM M (grM M (grM M v0 2) 0) (Int32.toNatClampNeg 1)) ≤ v5 then (some (v3, v4, M)) else (gd (decide (grM M v0 7 ≠ 0)) <| gd (obM M (grM M v0 7) 1 9) <| (fH_usedOf (grM M v0 7) v5 M).bind fun q7 => gd (obM q7.2 v0 10 15) <| gd (decide (grM q7.2 v0 7 ≠ 0)) <| gd (obM q7.2 (grM q7.2 v0 7) 1 9) <| gd (decide (grM q7.2 (grM q7.2 v0 7) 2 ≠ 0)) <| gd (rdI q7.2 (grM q7.2 (grM q7.2 v0 7) 2) v5) <| if (giM q7.2 (grM q7.2 (grM q7.2 v0 7) 2) (Int32.toNatClampNeg v5)) = v1 then ((fH_usedOf (grM q7.2 v0 7) v5 q7.2).bind fun q14 => BA_shares_88 K v0 v1 v2 (v4 + q7.1) v5 v3 q14.1 q14.2) else (BA_shares_88 K v0 v1 v2 (v4 + q7.1) v5 v3 0 q7.2))
def LA_shares_32 : Nat → Nat → Int32 → Int32 → Int32 → Int32 → Int32 → Mem → Option ((Int32 × Int32 × Mem))
  | 0 => fun _ _ _ _ _ _ _ => none
  | f + 1 => BA_shares_32 (LA_shares_32 f)
def BA_shares_22 (M : Mem) : Option (Int32 × Mem) :=
  some ((-1), M)
def fA_shares (v0 : Nat) (v1 : Int32) (v2 : Int32) (M : Mem) : Option (Int32 × Mem) :=
  gd (obM M v0 10 15) <| gd (decide (grM M v0 7 ≠ 0)) <| gd (obM M (grM M v0 7) 1 9) <| (fH_isThread (grM M v0 7) v1 M).bind fun q3 => if q3.1 = 0 then (BA_shares_22  q3.2) else (if v2 < 0 then (BA_shares_22  q3.2) else (if v2 ≤ 999 then ((LA_shares_32 1000000 v0 v1 v2 0 0 0 q3.2).bind (fun y6 => if y6.2.1 ≤ 0 then (BA_shares_111 0 y6.2.2) else (gd (decide (¬ y6.2.1 = 0)) <| BA_shares_111 ((v2 * y6.1) / y6.2.1) y6.2.2))) else (BA_shares_22  q3.2)))
def BA_fullest_41 (K : Nat → Int32 → Int32 → Mem → Option ((Int32 × Mem))) (v0 : Nat) (v2 : Int32) (w0 : Int32) (M : Mem) : Option ((Int32 × Mem)) :=
  K v0 w0 (v2 + 1) M
def BA_fullest_4 (K : Nat → Int32 → Int32 → Mem → Option ((Int32 × Mem))) (v0 : Nat) (v1 : Int32) (v2 : Int32) (M : Mem) : Option ((Int32 × Mem)) :=
  gd (obM M v0 10 15) <| gd (decide (grM M v0 2 ≠ 0)) <| gd (obM M (grM M v0 2) 7 3) <| gd (decide (grM M (grM M v0 2) 0 ≠ 0)) <| gd (rdI M (grM M (grM M v0 2) 0) 1) <| if (giM M (grM M (grM M v0 2) 0) (Int32.toNatClampNeg 1)) ≤ v2 then (some (v1, M)) else (gd (decide (grM M v0 7 ≠ 0)) <| gd (obM M (grM M v0 7) 1 9) <| (fH_usedOf (grM M v0 7) v2 M).bind fun q7 => gd (obM q7.2 v0 10 15) <| gd (decide (grM q7.2 v0 7 ≠ 0)) <| gd (obM q7.2 (grM q7.2 v0 7) 1 9) <| (fH_usedOf (grM q7.2 v0 7) v1 q7.2).bind fun q11 => if q7.1 ≤ q11.1 then (BA_fullest_41 K v0 v2 v1 q11.2) else (BA_fullest_41 K v0 v2 v2 q11.2))
def LA_fullest_4 : Nat → Nat → Int32 → Int32 → Mem → Option ((Int32 × Mem))
  | 0 => fun _ _ _ _ => none
  | f + 1 => BA_fullest_4 (LA_fullest_4 f)
def fA_fullest (v0 : Nat) (M : Mem) : Option (Int32 × Mem) :=
  (LA_fullest_4 1000000 v0 0 1 M).bind (fun r2 => some r2)
def BA_richest_41 (K : Nat → Int32 → Int32 → Mem → Option ((Int32 × Mem))) (v0 : Nat) (v2 : Int32) (w0 : Int32) (M : Mem) : Option ((Int32 × Mem)) :=
  K v0 w0 (v2 + 1) M
def BA_richest_4 (K : Nat → Int32 → Int32 → Mem → Option ((Int32 × Mem))) (v0 : Nat) (v1 : Int32) (v2 : Int32) (M : Mem) : Option ((Int32 × Mem)) :=
  gd (obM M v0 10 15) <| gd (decide (grM M v0 2 ≠ 0)) <| gd (obM M (grM M v0 2) 7 3) <| gd (decide (grM M (grM M v0 2) 0 ≠ 0)) <| gd (rdI M (grM M (grM M v0 2) 0) 0) <| if (giM M (grM M (grM M v0 2) 0) (Int32.toNatClampNeg 0)) ≤ v2 then (some (v1, M)) else (gd (decide (grM M v0 7 ≠ 0)) <| gd (obM M (grM M v0 7) 1 9) <| (fH_pagesOf (grM M v0 7) v2 M).bind fun q7 => gd (obM q7.2 v0 10 15) <| gd (decide (grM q7.2 v0 7 ≠ 0)) <| gd (obM q7.2 (grM q7.2 v0 7) 1 9) <| (fH_pagesOf (grM q7.2 v0 7) v1 q7.2).bind fun q11 => if q7.1 ≤ q11.1 then (BA_richest_41 K v0 v2 v1 q11.2) else (BA_richest_41 K v0 v2 v2 q11.2))
def LA_richest_4 : Nat → Nat → Int32 → Int32 → Mem → Option ((Int32 × Mem))
  | 0 => fun _ _ _ _ => none
  | f + 1 => BA_richest_4 (LA_richest_4 f)
def fA_richest (v0 : Nat) (M : Mem) : Option (Int32 × Mem) :=
  (LA_richest_4 1000000 v0 0 1 M).bind (fun r2 => some r2)
def BH_livingBits_4 (K : Nat → Int32 → Int32 → Mem → Option ((Int32 × Mem))) (v0 : Nat) (v1 : Int32) (v2 : Int32) (M : Mem) : Option ((Int32 × Mem)) :=
  gd (obM M v0 1 9) <| gd (decide (grM M v0 0 ≠ 0)) <| gd (obM M (grM M v0 0) 7 3) <| gd (decide (grM M (grM M v0 0) 0 ≠ 0)) <| gd (rdI M (grM M (grM M v0 0) 0) 0) <| if (giM M (grM M (grM M v0 0) 0) (Int32.toNatClampNeg 0)) ≤ v2 then (some (v1, M)) else (gd (decide (grM M v0 6 ≠ 0)) <| gd (rdI M (grM M v0 6) v2) <| K v0 (v1 ||| ((giM M (grM M v0 6) (Int32.toNatClampNeg v2)) <<< (v2 &&& 31))) (v2 + 1) M)
def LH_livingBits_4 : Nat → Nat → Int32 → Int32 → Mem → Option ((Int32 × Mem))
  | 0 => fun _ _ _ _ => none
  | f + 1 => BH_livingBits_4 (LH_livingBits_4 f)
def fH_livingBits (v0 : Nat) (M : Mem) : Option (Int32 × Mem) :=
  (LH_livingBits_4 1000000 v0 0 0 M).bind (fun r2 => some r2)
def BH_stateOf_42 (w0 : Int32) (M : Mem) : Option (Int32 × Mem) :=
  some (w0, M)
def fH_stateOf (v0 : Nat) (v1 : Int32) (M : Mem) : Option (Int32 × Mem) :=
  gd (obM M v0 1 9) <| gd (decide (grM M v0 1 ≠ 0)) <| gd (rdI M (grM M v0 1) v1) <| if (giM M (grM M v0 1) (Int32.toNatClampNeg v1)) = ((-1)) then (some (0, M)) else (gd (decide (grM M v0 2 ≠ 0)) <| gd (rdI M (grM M v0 2) v1) <| if (giM M (grM M v0 2) (Int32.toNatClampNeg v1)) = ((-1)) then (some (3, M)) else (gd (decide (grM M v0 4 ≠ 0)) <| gd (obM M (grM M v0 4) 0 4) <| gd (decide (grM M (grM M v0 4) 3 ≠ 0)) <| gd (rdI M (grM M (grM M v0 4) 3) v1) <| if (giM M (grM M (grM M v0 4) 3) (Int32.toNatClampNeg v1)) = ((-1)) then (BH_stateOf_42 2 M) else (BH_stateOf_42 1 M)))
def BH_bitsOf_34 (K : Nat → Int32 → Int32 → Int32 → Mem → Option ((Int32 × Mem))) (v0 : Nat) (v1 : Int32) (v3 : Int32) (w0 : Int32) (w1 : Int32) (M : Mem) : Option ((Int32 × Mem)) :=
  K v0 v1 (w0 ||| w1) (v3 + 1) M
def BH_bitsOf_4 (K : Nat → Int32 → Int32 → Int32 → Mem → Option ((Int32 × Mem))) (v0 : Nat) (v1 : Int32) (v2 : Int32) (v3 : Int32) (M : Mem) : Option ((Int32 × Mem)) :=
  gd (obM M v0 1 9) <| gd (decide (grM M v0 0 ≠ 0)) <| gd (obM M (grM M v0 0) 7 3) <| gd (decide (grM M (grM M v0 0) 0 ≠ 0)) <| gd (rdI M (grM M (grM M v0 0) 0) 1) <| if (giM M (grM M (grM M v0 0) 0) (Int32.toNatClampNeg 1)) ≤ v3 then (some (v2, M)) else ((fH_stateOf v0 v3 M).bind fun q6 => if q6.1 = v1 then (BH_bitsOf_34 K v0 v1 v3 v2 (1 <<< (v3 &&& 31)) q6.2) else (BH_bitsOf_34 K v0 v1 v3 v2 0 q6.2))
def LH_bitsOf_4 : Nat → Nat → Int32 → Int32 → Int32 → Mem → Option ((Int32 × Mem))
  | 0 => fun _ _ _ _ _ => none
  | f + 1 => BH_bitsOf_4 (LH_bitsOf_4 f)
def fH_bitsOf (v0 : Nat) (v1 : Int32) (M : Mem) : Option (Int32 × Mem) :=
  (LH_bitsOf_4 1000000 v0 v1 0 0 M).bind (fun r2 => some r2)
def BH_outInAll_4 (K : Nat → Int32 → Int32 → Mem → Option ((Int32 × Mem))) (v0 : Nat) (v1 : Int32) (v2 : Int32) (M : Mem) : Option ((Int32 × Mem)) :=
  gd (obM M v0 1 9) <| gd (decide (grM M v0 0 ≠ 0)) <| gd (obM M (grM M v0 0) 7 3) <| gd (decide (grM M (grM M v0 0) 0 ≠ 0)) <| gd (rdI M (grM M (grM M v0 0) 0) 0) <| if (giM M (grM M (grM M v0 0) 0) (Int32.toNatClampNeg 0)) ≤ v2 then (some (v1, M)) else ((fH_outOf v0 v2 M).bind fun q6 => K v0 (v1 + q6.1) (v2 + 1) q6.2)
def LH_outInAll_4 : Nat → Nat → Int32 → Int32 → Mem → Option ((Int32 × Mem))
  | 0 => fun _ _ _ _ => none
  | f + 1 => BH_outInAll_4 (LH_outInAll_4 f)
def fH_outInAll (v0 : Nat) (M : Mem) : Option (Int32 × Mem) :=
  (LH_outInAll_4 1000000 v0 0 0 M).bind (fun r2 => some r2)
def BH_idleUnits_66 (K : Nat → Int32 → Int32 → Mem → Option ((Int32 × Mem))) (v0 : Nat) (v1 : Int32) (v2 : Int32) (M : Mem) : Option ((Int32 × Mem)) :=
  K v0 v1 (v2 + 1) M
def BH_idleUnits_4 (K : Nat → Int32 → Int32 → Mem → Option ((Int32 × Mem))) (v0 : Nat) (v1 : Int32) (v2 : Int32) (M : Mem) : Option ((Int32 × Mem)) :=
  gd (obM M v0 1 9) <| gd (decide (grM M v0 0 ≠ 0)) <| gd (obM M (grM M v0 0) 7 3) <| gd (decide (grM M (grM M v0 0) 0 ≠ 0)) <| gd (rdI M (grM M (grM M v0 0) 0) 1) <| if (giM M (grM M (grM M v0 0) 0) (Int32.toNatClampNeg 1)) ≤ v2 then (some (v1, M)) else (gd (decide (grM M v0 1 ≠ 0)) <| gd (rdI M (grM M v0 1) v2) <| (fU_isKind (grM M v0 0) (giM M (grM M v0 1) (Int32.toNatClampNeg v2)) M).bind fun q8 => if q8.1 = 0 then (BH_idleUnits_66 K v0 v1 v2 q8.2) else (gd (obM q8.2 v0 1 9) <| gd (decide (grM q8.2 v0 0 ≠ 0)) <| gd (obM q8.2 (grM q8.2 v0 0) 7 3) <| gd (decide (grM q8.2 (grM q8.2 v0 0) 0 ≠ 0)) <| gd (rdI q8.2 (grM q8.2 (grM q8.2 v0 0) 0) 2) <| (fH_usedOf v0 v2 q8.2).bind fun q14 => gd (obM q14.2 v0 1 9) <| gd (decide (grM q14.2 v0 0 ≠ 0)) <| gd (obM q14.2 (grM q14.2 v0 0) 7 3) <| gd (decide (grM q14.2 (grM q14.2 v0 0) 1 ≠ 0)) <| gd (decide (grM q14.2 v0 1 ≠ 0)) <| gd (rdI q14.2 (grM q14.2 v0 1) v2) <| gd (rdI q14.2 (grM q14.2 (grM q14.2 v0 0) 1) (giM q14.2 (grM q14.2 v0 1) (Int32.toNatClampNeg v2))) <| BH_idleUnits_66 K v0 (v1 + ((giM q8.2 (grM q8.2 (grM q8.2 v0 0) 0) (Int32.toNatClampNeg 2)) - (q14.1 * (giM q14.2 (grM q14.2 (grM q14.2 v0 0) 1) (Int32.toNatClampNeg (giM q14.2 (grM q14.2 v0 1) (Int32.toNatClampNeg v2))))))) v2 q14.2))
def LH_idleUnits_4 : Nat → Nat → Int32 → Int32 → Mem → Option ((Int32 × Mem))
  | 0 => fun _ _ _ _ => none
  | f + 1 => BH_idleUnits_4 (LH_idleUnits_4 f)
def fH_idleUnits (v0 : Nat) (M : Mem) : Option (Int32 × Mem) :=
  (LH_idleUnits_4 1000000 v0 0 0 M).bind (fun r2 => some r2)
def BH_foreignInAll_4 (K : Nat → Int32 → Int32 → Mem → Option ((Int32 × Mem))) (v0 : Nat) (v1 : Int32) (v2 : Int32) (M : Mem) : Option ((Int32 × Mem)) :=
  gd (obM M v0 1 9) <| gd (decide (grM M v0 0 ≠ 0)) <| gd (obM M (grM M v0 0) 7 3) <| gd (decide (grM M (grM M v0 0) 0 ≠ 0)) <| gd (rdI M (grM M (grM M v0 0) 0) 1) <| if (giM M (grM M (grM M v0 0) 0) (Int32.toNatClampNeg 1)) ≤ v2 then (some (v1, M)) else ((fH_lengthOf v0 v2 2 M).bind fun q6 => K v0 (v1 + q6.1) (v2 + 1) q6.2)
def LH_foreignInAll_4 : Nat → Nat → Int32 → Int32 → Mem → Option ((Int32 × Mem))
  | 0 => fun _ _ _ _ => none
  | f + 1 => BH_foreignInAll_4 (LH_foreignInAll_4 f)
def fH_foreignInAll (v0 : Nat) (M : Mem) : Option (Int32 × Mem) :=
  (LH_foreignInAll_4 1000000 v0 0 0 M).bind (fun r2 => some r2)
def BH_timesIn_61 (v3 : Int32) (M : Mem) : Option (Int32 × Mem) :=
  some (v3, M)
def BH_timesIn_41 (K : Nat → Int32 → Int32 → Int32 → Int32 → Mem → Option ((Int32 × Mem))) (v0 : Nat) (v2 : Int32) (v4 : Int32) (v5 : Int32) (w0 : Int32) (w1 : Int32) (M : Mem) : Option ((Int32 × Mem)) :=
  gd (obM M v0 1 9) <| gd (decide (grM M v0 5 ≠ 0)) <| gd (obM M (grM M v0 5) 0 4) <| gd (decide (grM M (grM M v0 5) 2 ≠ 0)) <| gd (rdI M (grM M (grM M v0 5) 2) v4) <| K v0 v2 (w0 + w1) (giM M (grM M (grM M v0 5) 2) (Int32.toNatClampNeg v4)) (v5 + 1) M
def BH_timesIn_16 (K : Nat → Int32 → Int32 → Int32 → Int32 → Mem → Option ((Int32 × Mem))) (v0 : Nat) (v2 : Int32) (v3 : Int32) (v4 : Int32) (v5 : Int32) (M : Mem) : Option ((Int32 × Mem)) :=
  if 40 ≤ v5 then (some (v3, M)) else (if v4 = ((-1)) then (some (v3, M)) else (if v4 = v2 then (BH_timesIn_41 K v0 v2 v4 v5 v3 1 M) else (BH_timesIn_41 K v0 v2 v4 v5 v3 0 M)))
def LH_timesIn_16 : Nat → Nat → Int32 → Int32 → Int32 → Int32 → Mem → Option ((Int32 × Mem))
  | 0 => fun _ _ _ _ _ _ => none
  | f + 1 => BH_timesIn_16 (LH_timesIn_16 f)
def fH_timesIn (v0 : Nat) (v1 : Int32) (v2 : Int32) (M : Mem) : Option (Int32 × Mem) :=
  gd (obM M v0 1 9) <| gd (decide (grM M v0 5 ≠ 0)) <| gd (obM M (grM M v0 5) 0 4) <| gd (decide (grM M (grM M v0 5) 0 ≠ 0)) <| gd (rdI M (grM M (grM M v0 5) 0) v1) <| (LH_timesIn_16 1000000 v0 v2 0 (giM M (grM M (grM M v0 5) 0) (Int32.toNatClampNeg v1)) 0 M).bind (fun y7 => BH_timesIn_61 y7.1 y7.2)
def BH_placesOf_52 (K : Nat → Int32 → Int32 → Int32 → Int32 → Mem → Option ((Int32 × Mem))) (v0 : Nat) (v1 : Int32) (v2 : Int32) (v3 : Int32) (v4 : Int32) (M : Mem) : Option ((Int32 × Mem)) :=
  gd (obM M v0 1 9) <| gd (decide (grM M v0 0 ≠ 0)) <| gd (obM M (grM M v0 0) 7 3) <| gd (decide (grM M (grM M v0 0) 0 ≠ 0)) <| gd (rdI M (grM M (grM M v0 0) 0) 0) <| if (giM M (grM M (grM M v0 0) 0) (Int32.toNatClampNeg 0)) ≤ v4 then (some (v3, M)) else ((fH_outboxOf v0 v4 v1 M).bind fun q6 => gd (obM q6.2 v0 1 9) <| (fH_timesIn v0 q6.1 v2 q6.2).bind fun q7 => K v0 v1 v2 (v3 + q7.1) (v4 + 1) q7.2)
def LH_placesOf_52 : Nat → Nat → Int32 → Int32 → Int32 → Int32 → Mem → Option ((Int32 × Mem))
  | 0 => fun _ _ _ _ _ _ => none
  | f + 1 => BH_placesOf_52 (LH_placesOf_52 f)
def BH_placesOf_22 (K : Nat → Int32 → Int32 → Int32 → Int32 → Mem → Option ((Int32 × Mem))) (v0 : Nat) (v1 : Int32) (v2 : Int32) (v3 : Int32) (v4 : Int32) (M : Mem) : Option ((Int32 × Mem)) :=
  if 2 < v4 then (some (v3, M)) else (gd (obM M v0 1 9) <| (fH_listOf v0 v1 v4 M).bind fun q1 => gd (obM q1.2 v0 1 9) <| (fH_timesIn v0 q1.1 v2 q1.2).bind fun q3 => K v0 v1 v2 (v3 + q3.1) (v4 + 1) q3.2)
def LH_placesOf_22 : Nat → Nat → Int32 → Int32 → Int32 → Int32 → Mem → Option ((Int32 × Mem))
  | 0 => fun _ _ _ _ _ _ => none
  | f + 1 => BH_placesOf_22 (LH_placesOf_22 f)
def BH_placesOf_18 (v0 : Nat) (v1 : Int32) (v2 : Int32) (w0 : Int32) (M : Mem) : Option (Int32 × Mem) :=
  (LH_placesOf_22 1000000 v0 v1 v2 w0 0 M).bind (fun y2 => (LH_placesOf_52 1000000 v0 v1 v2 y2.1 0 y2.2).bind (fun r4 => some r4))
def fH_placesOf (v0 : Nat) (v1 : Int32) (v2 : Int32) (M : Mem) : Option (Int32 × Mem) :=
  gd (obM M v0 1 9) <| gd (decide (grM M v0 5 ≠ 0)) <| gd (obM M (grM M v0 5) 0 4) <| gd (decide (grM M (grM M v0 5) 3 ≠ 0)) <| gd (rdI M (grM M (grM M v0 5) 3) v2) <| if (giM M (grM M (grM M v0 5) 3) (Int32.toNatClampNeg v2)) = ((-1)) then (BH_placesOf_18 v0 v1 v2 1 M) else (BH_placesOf_18 v0 v1 v2 0 M)
def BH_lostBlocks_50 (K : Nat → Int32 → Int32 → Int32 → Mem → Option ((Int32 × Mem))) (v0 : Nat) (v2 : Int32) (v3 : Int32) (w0 : Int32) (w1 : Int32) (M : Mem) : Option ((Int32 × Mem)) :=
  K v0 (w0 + w1) v2 (v3 + 1) M
def BH_lostBlocks_19 (K : Nat → Int32 → Int32 → Int32 → Mem → Option ((Int32 × Mem))) (v0 : Nat) (v1 : Int32) (v2 : Int32) (v3 : Int32) (M : Mem) : Option ((Int32 × Mem)) :=
  gd (obM M v0 1 9) <| gd (decide (grM M v0 3 ≠ 0)) <| gd (rdI M (grM M v0 3) v2) <| if (giM M (grM M v0 3) (Int32.toNatClampNeg v2)) ≤ v3 then (some (v1, M)) else ((fH_placesOf v0 v2 ((v2 * 40) + v3) M).bind fun q4 => if q4.1 = 1 then (BH_lostBlocks_50 K v0 v2 v3 v1 0 q4.2) else (BH_lostBlocks_50 K v0 v2 v3 v1 1 q4.2))
def LH_lostBlocks_19 : Nat → Nat → Int32 → Int32 → Int32 → Mem → Option ((Int32 × Mem))
  | 0 => fun _ _ _ _ _ => none
  | f + 1 => BH_lostBlocks_19 (LH_lostBlocks_19 f)
def BH_lostBlocks_4 (K : Nat → Int32 → Int32 → Mem → Option ((Int32 × Mem))) (v0 : Nat) (v1 : Int32) (v2 : Int32) (M : Mem) : Option ((Int32 × Mem)) :=
  gd (obM M v0 1 9) <| gd (decide (grM M v0 0 ≠ 0)) <| gd (obM M (grM M v0 0) 7 3) <| gd (decide (grM M (grM M v0 0) 0 ≠ 0)) <| gd (rdI M (grM M (grM M v0 0) 0) 1) <| if (giM M (grM M (grM M v0 0) 0) (Int32.toNatClampNeg 1)) ≤ v2 then (some (v1, M)) else ((LH_lostBlocks_19 1000000 v0 v1 v2 0 M).bind (fun y7 => K v0 y7.1 (v2 + 1) y7.2))
def LH_lostBlocks_4 : Nat → Nat → Int32 → Int32 → Mem → Option ((Int32 × Mem))
  | 0 => fun _ _ _ _ => none
  | f + 1 => BH_lostBlocks_4 (LH_lostBlocks_4 f)
def fH_lostBlocks (v0 : Nat) (M : Mem) : Option (Int32 × Mem) :=
  (LH_lostBlocks_4 1000000 v0 0 0 M).bind (fun r2 => some r2)
def fA_most (v0 : Nat) (v1 : Int32) (M : Mem) : Option (Int32 × Mem) :=
  gd (obM M v0 10 15) <| gd (decide (grM M v0 2 ≠ 0)) <| gd (obM M (grM M v0 2) 7 3) <| (fU_areTold (grM M v0 2) M).bind fun q3 => if q3.1 = 0 then (some ((-1000000), q3.2)) else (if v1 = 0 then (gd (obM q3.2 v0 10 15) <| (fA_fullest v0 q3.2).bind fun q5 => some (q5.1, q5.2)) else if v1 = 1 then (gd (obM q3.2 v0 10 15) <| (fA_richest v0 q3.2).bind fun q7 => some (q7.1, q7.2)) else if v1 = 2 then (gd (obM q3.2 v0 10 15) <| gd (decide (grM q3.2 v0 7 ≠ 0)) <| gd (obM q3.2 (grM q3.2 v0 7) 1 9) <| (fH_livingBits (grM q3.2 v0 7) q3.2).bind fun q11 => some (q11.1, q11.2)) else if v1 = 3 then (gd (obM q3.2 v0 10 15) <| gd (decide (grM q3.2 v0 7 ≠ 0)) <| gd (obM q3.2 (grM q3.2 v0 7) 1 9) <| (fH_bitsOf (grM q3.2 v0 7) 3 q3.2).bind fun q15 => some (q15.1, q15.2)) else if v1 = 4 then (gd (obM q3.2 v0 10 15) <| gd (decide (grM q3.2 v0 7 ≠ 0)) <| gd (obM q3.2 (grM q3.2 v0 7) 1 9) <| (fH_bitsOf (grM q3.2 v0 7) 0 q3.2).bind fun q19 => some (q19.1, q19.2)) else if v1 = 5 then (gd (obM q3.2 v0 10 15) <| gd (decide (grM q3.2 v0 7 ≠ 0)) <| gd (obM q3.2 (grM q3.2 v0 7) 1 9) <| (fH_bitsOf (grM q3.2 v0 7) 2 q3.2).bind fun q23 => some (q23.1, q23.2)) else if v1 = 6 then (gd (obM q3.2 v0 10 15) <| gd (decide (grM q3.2 v0 7 ≠ 0)) <| gd (obM q3.2 (grM q3.2 v0 7) 1 9) <| (fH_bitsOf (grM q3.2 v0 7) 1 q3.2).bind fun q27 => some (q27.1, q27.2)) else if v1 = 7 then (gd (obM q3.2 v0 10 15) <| gd (decide (grM q3.2 v0 7 ≠ 0)) <| gd (obM q3.2 (grM q3.2 v0 7) 1 9) <| (fH_heldInAll (grM q3.2 v0 7) q3.2).bind fun q31 => some (q31.1, q31.2)) else if v1 = 8 then (gd (obM q3.2 v0 10 15) <| gd (decide (grM q3.2 v0 7 ≠ 0)) <| gd (obM q3.2 (grM q3.2 v0 7) 1 9) <| (fH_outInAll (grM q3.2 v0 7) q3.2).bind fun q35 => some (q35.1, q35.2)) else if v1 = 9 then (gd (obM q3.2 v0 10 15) <| gd (decide (grM q3.2 v0 7 ≠ 0)) <| gd (obM q3.2 (grM q3.2 v0 7) 1 9) <| (fH_idleUnits (grM q3.2 v0 7) q3.2).bind fun q39 => some (q39.1, q39.2)) else if v1 = 10 then (gd (obM q3.2 v0 10 15) <| gd (decide (grM q3.2 v0 7 ≠ 0)) <| gd (obM q3.2 (grM q3.2 v0 7) 1 9) <| (fH_foreignInAll (grM q3.2 v0 7) q3.2).bind fun q43 => some (q43.1, q43.2)) else if v1 = 11 then (gd (obM q3.2 v0 10 15) <| gd (decide (grM q3.2 v0 7 ≠ 0)) <| gd (obM q3.2 (grM q3.2 v0 7) 1 9) <| (fH_lostBlocks (grM q3.2 v0 7) q3.2).bind fun q47 => some (q47.1, q47.2)) else (some ((-1000000), q3.2)))
def fA_image (v0 : Nat) (M : Mem) : Option (Int32 × Mem) :=
  gd (obM M v0 10 15) <| gd (decide (grM M v0 2 ≠ 0)) <| gd (obM M (grM M v0 2) 7 3) <| (fU_areTold (grM M v0 2) M).bind fun q3 => if q3.1 = 0 then (some ((-1), q3.2)) else (gd (obM q3.2 v0 10 15) <| gd (decide (grM q3.2 v0 9 ≠ 0)) <| gd (decide (grM q3.2 v0 7 ≠ 0)) <| gd (obM q3.2 (grM q3.2 v0 9) 1 9) <| (fH_copyFrom (grM q3.2 v0 9) (grM q3.2 v0 7) q3.2).bind fun q8 => gd (obM q8 v0 10 15) <| gd (decide (grM q8 v0 7 ≠ 0)) <| gd (obM q8 (grM q8 v0 7) 1 9) <| (fH_heldInAll (grM q8 v0 7) (siM q8 v0 10 1)).bind fun q12 => some (q12.1, q12.2))
def fA_back (v0 : Nat) (M : Mem) : Option (Int32 × Mem) :=
  gd (obM M v0 10 15) <| if (giM M v0 10) = 0 then (some ((-1), M)) else (gd (decide (grM M v0 7 ≠ 0)) <| gd (decide (grM M v0 9 ≠ 0)) <| gd (obM M (grM M v0 7) 1 9) <| (fH_copyFrom (grM M v0 7) (grM M v0 9) M).bind fun q4 => gd (obM q4 v0 10 15) <| gd (decide (grM q4 v0 8 ≠ 0)) <| gd (obM q4 (grM q4 v0 8) 4 3) <| (fP_forget (grM q4 v0 8) q4).bind fun q8 => gd (obM q8 v0 10 15) <| gd (decide (grM q8 v0 7 ≠ 0)) <| gd (obM q8 (grM q8 v0 7) 1 9) <| (fH_heldInAll (grM q8 v0 7) q8).bind fun q12 => some (q12.1, q12.2))
def fA_count (v0 : Nat) (v1 : Int32) (M : Mem) : Option (Int32 × Mem) :=
  if v1 = 0 then (gd (obM M v0 10 15) <| gd (decide (grM M v0 2 ≠ 0)) <| gd (obM M (grM M v0 2) 7 3) <| some (giM M (grM M v0 2) 2, M)) else if v1 = 1 then (gd (obM M v0 10 15) <| some (giM M v0 5, M)) else if v1 = 2 then (gd (obM M v0 10 15) <| gd (decide (grM M v0 0 ≠ 0)) <| gd (obM M (grM M v0 0) 9 2) <| some (giM M (grM M v0 0) 1, M)) else if v1 = 3 then (gd (obM M v0 10 15) <| gd (decide (grM M v0 7 ≠ 0)) <| gd (obM M (grM M v0 7) 1 9) <| gd (decide (grM M (grM M v0 7) 8 ≠ 0)) <| gd (obM M (grM M (grM M v0 7) 8) 2 2) <| (fL_length (grM M (grM M v0 7) 8) M).bind fun q12 => some (q12.1, q12.2)) else if v1 = 4 then (gd (obM M v0 10 15) <| gd (decide (grM M v0 8 ≠ 0)) <| gd (obM M (grM M v0 8) 4 3) <| some (giM M (grM M v0 8) 2, M)) else (some ((-1000000), M))
def fM_thrown (v0 : Nat) (M : Mem) : Option (Int32 × Mem) :=
  gd (obM M v0 11 34) <| some (giM M v0 0, M)
def BM_byteOf_45 (v5 : Int32) (w0 : Int32) (M : Mem) : Option (Int32 × Mem) :=
  some ((w0 >>> ((24 - (8 * (v5 - v5 / 4 * 4))) &&& 31)) &&& 255, M)
def fM_byteOf (v0 : Int32) (v1 : Int32) (v2 : Int32) (v3 : Int32) (v4 : Int32) (v5 : Int32) (M : Mem) : Option (Int32 × Mem) :=
  if 4 ≤ v5 then (if 8 ≤ v5 then (if 12 ≤ v5 then (if 16 ≤ v5 then (BM_byteOf_45 v5 v4 M) else (BM_byteOf_45 v5 v3 M)) else (BM_byteOf_45 v5 v2 M)) else (BM_byteOf_45 v5 v1 M)) else (BM_byteOf_45 v5 v0 M)
def BM_feed_109 (K : Nat → Int32 → Int32 → Int32 → Int32 → Int32 → Int32 → Mem → Option ((Int32 × Mem))) (v0 : Nat) (v1 : Int32) (v2 : Int32) (v3 : Int32) (v4 : Int32) (v5 : Int32) (v7 : Int32) (M : Mem) : Option ((Int32 × Mem)) :=
  K v0 v1 v2 v3 v4 v5 (v7 + 1) M
def BM_feed_62 (K : Nat → Int32 → Int32 → Int32 → Int32 → Int32 → Int32 → Mem → Option ((Int32 × Mem))) (v0 : Nat) (v1 : Int32) (v2 : Int32) (v3 : Int32) (v4 : Int32) (v5 : Int32) (v7 : Int32) (M : Mem) : Option ((Int32 × Mem)) :=
  if 20 ≤ v7 then (gd (obM M v0 11 34) <| some (giM M v0 2, M)) else ((fM_byteOf v1 v2 v3 v4 v5 v7 M).bind fun q2 => if q2.1 = 0 then (BM_feed_109 K v0 v1 v2 v3 v4 v5 v7 q2.2) else (gd (obM q2.2 v0 11 34) <| gd (decide (grM q2.2 v0 1 ≠ 0)) <| gd (wrI q2.2 (grM q2.2 v0 1) (giM q2.2 v0 2)) <| BM_feed_109 K v0 v1 v2 v3 v4 v5 v7 (siM (siM q2.2 (grM q2.2 v0 1) (Int32.toNatClampNeg (giM q2.2 v0 2)) q2.1) v0 2 ((giM (siM q2.2 (grM q2.2 v0 1) (Int32.toNatClampNeg (giM q2.2 v0 2)) q2.1) v0 2) + 1))))
def LM_feed_62 : Nat → Nat → Int32 → Int32 → Int32 → Int32 → Int32 → Int32 → Mem → Option ((Int32 × Mem))
  | 0 => fun _ _ _ _ _ _ _ _ => none
  | f + 1 => BM_feed_62 (LM_feed_62 f)
def BM_feed_35 (K : Nat → Int32 → Int32 → Int32 → Int32 → Int32 → Int32 → Int32 → Mem → Option ((Int32 × Mem))) (v0 : Nat) (v1 : Int32) (v2 : Int32) (v3 : Int32) (v4 : Int32) (v5 : Int32) (v7 : Int32) (w0 : Int32) (w1 : Int32) (M : Mem) : Option ((Int32 × Mem)) :=
  K v0 v1 v2 v3 v4 v5 (w0 + w1) (v7 + 1) M
def BM_feed_6 (K : Nat → Int32 → Int32 → Int32 → Int32 → Int32 → Int32 → Int32 → Mem → Option ((Int32 × Mem))) (v0 : Nat) (v1 : Int32) (v2 : Int32) (v3 : Int32) (v4 : Int32) (v5 : Int32) (v6 : Int32) (v7 : Int32) (M : Mem) : Option ((Int32 × Mem)) :=
  if 20 ≤ v7 then (some (v6, M)) else ((fM_byteOf v1 v2 v3 v4 v5 v7 M).bind fun q1 => if q1.1 = 0 then (BM_feed_35 K v0 v1 v2 v3 v4 v5 v7 v6 0 q1.2) else (BM_feed_35 K v0 v1 v2 v3 v4 v5 v7 v6 1 q1.2))
def LM_feed_6 : Nat → Nat → Int32 → Int32 → Int32 → Int32 → Int32 → Int32 → Int32 → Mem → Option ((Int32 × Mem))
  | 0 => fun _ _ _ _ _ _ _ _ _ => none
  | f + 1 => BM_feed_6 (LM_feed_6 f)
def fM_feed (v0 : Nat) (v1 : Int32) (v2 : Int32) (v3 : Int32) (v4 : Int32) (v5 : Int32) (M : Mem) : Option (Int32 × Mem) :=
  (LM_feed_6 1000000 v0 v1 v2 v3 v4 v5 0 0 M).bind (fun y2 => gd (obM y2.2 v0 11 34) <| if ((giM y2.2 v0 2) + y2.1) ≤ 240 then ((LM_feed_62 1000000 v0 v1 v2 v3 v4 v5 0 y2.2).bind (fun r5 => some r5)) else (some ((-1), y2.2)))
def BM_in_15 (w0 : Int32) (M : Mem) : Option (Int32 × Mem) :=
  gd (decide (w0 = 0 ∨ w0 = 1)) <| some (w0, M)
def BM_in_14 (M : Mem) : Option (Int32 × Mem) :=
  BM_in_15 0 M
def fM_in (v0 : Int32) (v1 : Int32) (v2 : Int32) (M : Mem) : Option (Int32 × Mem) :=
  if v0 < v1 then (BM_in_14  M) else (if v2 < v0 then (BM_in_14  M) else (BM_in_15 1 M))
def fM_end (v0 : Nat) (v1 : Int32) (M : Mem) : Option (Int32 × Mem) :=
  gd (obM M v0 11 34) <| (fM_in v1 0 (giM M v0 2) M).bind fun q2 => if q2.1 = 0 then (some (0, q2.2)) else (gd (obM q2.2 v0 11 34) <| some (1, siM q2.2 v0 2 v1))
def BM_usual_47 (w0 : Int32) (M : Mem) : Option (Int32 × Mem) :=
  some (w0, M)
def fM_usual (v0 : Int32) (v1 : Int32) (M : Mem) : Option (Int32 × Mem) :=
  if v0 = 99 then (some (1, M)) else (if v1 = 0 then (BM_usual_47 2 M) else (if v1 = 1 then (BM_usual_47 6 M) else (if v1 = 2 then (BM_usual_47 16 M) else (if v1 = 3 then (BM_usual_47 3 M) else (BM_usual_47 8 M)))))
def BM_here_24 (w0 : Int32) (M : Mem) : Option (Int32 × Mem) :=
  some (w0, M)
def fM_here (v0 : Nat) (M : Mem) : Option (Int32 × Mem) :=
  gd (obM M v0 11 34) <| if (giM M v0 2) ≤ (giM M v0 3) then (BM_here_24 ((-1)) M) else (gd (decide (grM M v0 1 ≠ 0)) <| gd (rdI M (grM M v0 1) (giM M v0 3)) <| BM_here_24 (giM M (grM M v0 1) (Int32.toNatClampNeg (giM M v0 3))) M)
def BM_ahead_0 (K : Nat → Mem → Option ((Int32 × Mem))) (v0 : Nat) (M : Mem) : Option ((Int32 × Mem)) :=
  gd (obM M v0 11 34) <| (fM_here v0 M).bind fun q1 => if q1.1 = 32 then (gd (obM q1.2 v0 11 34) <| K v0 (siM q1.2 v0 3 ((giM q1.2 v0 3) + 1))) else (gd (obM q1.2 v0 11 34) <| (fM_here v0 q1.2).bind fun q3 => some (q3.1, q3.2))
def LM_ahead_0 : Nat → Nat → Mem → Option ((Int32 × Mem))
  | 0 => fun _ _ => none
  | f + 1 => BM_ahead_0 (LM_ahead_0 f)
def fM_ahead (v0 : Nat) (M : Mem) : Option (Int32 × Mem) :=
  (LM_ahead_0 1000000 v0 M).bind (fun r2 => some r2)
def BM_itemOf_69 (w0 : Int32) (M : Mem) : Option (Int32 × Mem) :=
  some (w0, M)
def BM_itemOf_17 (w0 : Int32) (M : Mem) : Option (Int32 × Mem) :=
  some (w0, M)
def fM_itemOf (v0 : Int32) (v1 : Int32) (M : Mem) : Option (Int32 × Mem) :=
  if v0 = 99 then (if v1 = 122 then (BM_itemOf_17 0 M) else (BM_itemOf_17 ((-1)) M)) else (if v1 = 116 then (BM_itemOf_69 0 M) else (if v1 = 112 then (BM_itemOf_69 1 M) else (if v1 = 117 then (BM_itemOf_69 2 M) else (if v1 = 98 then (BM_itemOf_69 3 M) else (if v1 = 104 then (BM_itemOf_69 4 M) else (BM_itemOf_69 ((-1)) M))))))
def BM_has_14 (w0 : Int32) (M : Mem) : Option (Int32 × Mem) :=
  gd (decide (w0 = 0 ∨ w0 = 1)) <| some (w0, M)
def fM_has (v0 : Int32) (v1 : Int32) (M : Mem) : Option (Int32 × Mem) :=
  if ((v0 >>> (v1 &&& 31)) &&& 1) = 1 then (BM_has_14 1 M) else (BM_has_14 0 M)
def BM_highest_49 (w0 : Int32) (M : Mem) : Option (Int32 × Mem) :=
  some (w0, M)
def fM_highest (v0 : Int32) (v1 : Int32) (M : Mem) : Option (Int32 × Mem) :=
  if v0 = 99 then (some (40, M)) else (if v1 = 0 then (BM_highest_49 4 M) else (if v1 = 1 then (BM_highest_49 16 M) else (if v1 = 2 then (BM_highest_49 40 M) else (if v1 = 3 then (BM_highest_49 9 M) else (BM_highest_49 30 M)))))
def BM_isDigit_17 (w0 : Int32) (M : Mem) : Option (Int32 × Mem) :=
  gd (decide (w0 = 0 ∨ w0 = 1)) <| some (w0, M)
def BM_isDigit_16 (M : Mem) : Option (Int32 × Mem) :=
  BM_isDigit_17 0 M
def fM_isDigit (v0 : Int32) (M : Mem) : Option (Int32 × Mem) :=
  if v0 < 48 then (BM_isDigit_16  M) else (if 57 < v0 then (BM_isDigit_16  M) else (BM_isDigit_17 1 M))
def BM_bad_20 (w0 : Nat) (w1 : Int32) (M : Mem) : Option (Mem) :=
  gd (obM M w0 11 34) <| some (siM M w0 4 w1)
def fM_bad (v0 : Nat) (M : Mem) : Option (Mem) :=
  gd (obM M v0 11 34) <| if (giM M v0 4) = ((-1)) then (BM_bad_20 v0 (giM M v0 3) M) else (BM_bad_20 v0 (giM M v0 4) M)
def BM_number_107 (v3 : Int32) (M : Mem) : Option (Int32 × Mem) :=
  some (v3, M)
def BM_number_67 (v0 : Nat) (v1 : Int32) (v2 : Int32) (v3 : Int32) (M : Mem) : Option (Int32 × Mem) :=
  gd (obM M v0 11 34) <| (fM_here v0 M).bind fun q1 => (fM_isDigit q1.1 q1.2).bind fun q3 => if q3.1 = 0 then ((fM_in v3 v1 v2 q3.2).bind fun q4 => if q4.1 = 0 then (gd (obM q4.2 v0 11 34) <| (fM_bad v0 (siM q4.2 v0 3 ((giM q4.2 v0 3) - 1))).bind fun q6 => BM_number_107 v3 q6) else (BM_number_107 v3 q4.2)) else (gd (obM q3.2 v0 11 34) <| (fM_bad v0 q3.2).bind fun q7 => BM_number_107 v3 q7)
def fM_number (v0 : Nat) (v1 : Int32) (v2 : Int32) (M : Mem) : Option (Int32 × Mem) :=
  gd (obM M v0 11 34) <| (fM_ahead v0 M).bind fun q1 => (fM_isDigit q1.1 q1.2).bind fun q3 => if q3.1 = 0 then (gd (obM q3.2 v0 11 34) <| (fM_bad v0 q3.2).bind fun q12 => some (v1, q12)) else (gd (obM q3.2 v0 11 34) <| (fM_here v0 q3.2).bind fun q4 => gd (obM q4.2 v0 11 34) <| (fM_here v0 (siM q4.2 v0 3 ((giM q4.2 v0 3) + 1))).bind fun q7 => (fM_isDigit q7.1 q7.2).bind fun q8 => if q8.1 = 0 then (BM_number_67 v0 v1 v2 (q4.1 - 48) q8.2) else (gd (obM q8.2 v0 11 34) <| (fM_here v0 q8.2).bind fun q9 => gd (obM q9.2 v0 11 34) <| BM_number_67 v0 v1 v2 (((10 * (q4.1 - 48)) + q9.1) - 48) (siM q9.2 v0 3 ((giM q9.2 v0 3) + 1))))
def BM_items_142 (M : Mem) : Option (Mem) :=
  some M
def BM_items_137 (K : Nat → Int32 → Nat → Int32 → Int32 → Int32 → Mem → Option ((Mem))) (v0 : Nat) (v1 : Int32) (v2 : Nat) (v3 : Int32) (v5 : Int32) (w0 : Int32) (M : Mem) : Option ((Mem)) :=
  K v0 v1 v2 v3 v5 w0 M
def BM_items_107 (K : Nat → Int32 → Nat → Int32 → Int32 → Int32 → Mem → Option ((Mem))) (v0 : Nat) (v1 : Int32) (v2 : Nat) (v3 : Int32) (v5 : Int32) (v6 : Int32) (w0 : Nat) (w1 : Int32) (w2 : Nat) (w3 : Int32) (M : Mem) : Option ((Mem)) :=
  (fM_highest v1 v6 M).bind fun q1 => gd (obM q1.2 w2 11 34) <| (fM_number w2 w3 q1.1 q1.2).bind fun q2 => gd (wrI q2.2 w0 w1) <| gd (obM q2.2 v0 11 34) <| if (giM (siM q2.2 w0 (Int32.toNatClampNeg w1) q2.1) v0 4) = ((-1)) then ((fM_ahead v0 (siM q2.2 w0 (Int32.toNatClampNeg w1) q2.1)).bind fun q6 => (fM_itemOf v1 q6.1 q6.2).bind fun q7 => BM_items_137 K v0 v1 v2 v3 v5 q7.1 q7.2) else (BM_items_137 K v0 v1 v2 v3 v5 ((-1)) (siM q2.2 w0 (Int32.toNatClampNeg w1) q2.1))
def BM_items_106 (K : Nat → Int32 → Nat → Int32 → Int32 → Int32 → Mem → Option ((Mem))) (v0 : Nat) (v1 : Int32) (v2 : Nat) (v3 : Int32) (v5 : Int32) (v6 : Int32) (w0 : Nat) (w1 : Int32) (w2 : Nat) (M : Mem) : Option ((Mem)) :=
  BM_items_107 K v0 v1 v2 v3 v5 v6 w0 w1 w2 1 M
def BM_items_41 (K : Nat → Int32 → Nat → Int32 → Int32 → Int32 → Mem → Option ((Mem))) (v0 : Nat) (v1 : Int32) (v2 : Nat) (v3 : Int32) (v5 : Int32) (v6 : Int32) (M : Mem) : Option ((Mem)) :=
  gd (obM M v0 11 34) <| if (giM M v0 4) = ((-1)) then (if v6 = ((-1)) then (some M) else ((fM_has v5 v6 M).bind fun q2 => if q2.1 = 0 then (gd (obM q2.2 v0 11 34) <| if v1 = 115 then (if v6 = 2 then (BM_items_107 K v0 v1 v2 v3 (v5 ||| (1 <<< (v6 &&& 31))) v6 v2 (v3 + v6) v0 4 (siM q2.2 v0 3 ((giM q2.2 v0 3) + 1))) else (BM_items_106 K v0 v1 v2 v3 (v5 ||| (1 <<< (v6 &&& 31))) v6 v2 (v3 + v6) v0 (siM q2.2 v0 3 ((giM q2.2 v0 3) + 1)))) else (BM_items_106 K v0 v1 v2 v3 (v5 ||| (1 <<< (v6 &&& 31))) v6 v2 (v3 + v6) v0 (siM q2.2 v0 3 ((giM q2.2 v0 3) + 1)))) else (some q2.2))) else (some M)
def LM_items_41 : Nat → Nat → Int32 → Nat → Int32 → Int32 → Int32 → Mem → Option ((Mem))
  | 0 => fun _ _ _ _ _ _ _ => none
  | f + 1 => BM_items_41 (LM_items_41 f)
def BM_items_3 (K : Nat → Int32 → Nat → Int32 → Int32 → Int32 → Mem → Option ((Mem))) (v0 : Nat) (v1 : Int32) (v2 : Nat) (v3 : Int32) (v4 : Int32) (v5 : Int32) (M : Mem) : Option ((Mem)) :=
  if v4 ≤ v5 then (some M) else ((fM_usual v1 v5 M).bind fun q1 => gd (wrI q1.2 v2 (v3 + v5)) <| K v0 v1 v2 v3 v4 (v5 + 1) (siM q1.2 v2 (Int32.toNatClampNeg (v3 + v5)) q1.1))
def LM_items_3 : Nat → Nat → Int32 → Nat → Int32 → Int32 → Int32 → Mem → Option ((Mem))
  | 0 => fun _ _ _ _ _ _ _ => none
  | f + 1 => BM_items_3 (LM_items_3 f)
def fM_items (v0 : Nat) (v1 : Int32) (v2 : Nat) (v3 : Int32) (v4 : Int32) (M : Mem) : Option (Mem) :=
  (LM_items_3 1000000 v0 v1 v2 v3 v4 0 M).bind (fun y2 => gd (obM y2 v0 11 34) <| (fM_ahead v0 y2).bind fun q3 => (fM_itemOf v1 q3.1 q3.2).bind fun q5 => (LM_items_41 1000000 v0 v1 v2 v3 0 q5.1 q5.2).bind (fun y7 => BM_items_142  y7))
def BM_isWhole_68 (K : Nat → Int32 → Int32 → Mem → Option ((Int32 × Mem))) (v0 : Nat) (v2 : Int32) (w0 : Int32) (M : Mem) : Option ((Int32 × Mem)) :=
  K v0 w0 (v2 + 1) M
def BM_isWhole_67 (K : Nat → Int32 → Int32 → Mem → Option ((Int32 × Mem))) (v0 : Nat) (v2 : Int32) (M : Mem) : Option ((Int32 × Mem)) :=
  BM_isWhole_68 K v0 v2 0 M
def BM_isWhole_63 (K : Nat → Int32 → Int32 → Mem → Option ((Int32 × Mem))) (v0 : Nat) (v2 : Int32) (M : Mem) : Option ((Int32 × Mem)) :=
  BM_isWhole_68 K v0 v2 1 M
def BM_isWhole_15 (K : Nat → Int32 → Int32 → Mem → Option ((Int32 × Mem))) (v0 : Nat) (v1 : Int32) (v2 : Int32) (M : Mem) : Option ((Int32 × Mem)) :=
  gd (obM M v0 11 34) <| if (giM M v0 7) ≤ v2 then (gd (decide (v1 = 0 ∨ v1 = 1)) <| some (v1, M)) else (if v1 = 0 then (BM_isWhole_67 K v0 v2 M) else (gd (decide (grM M v0 6 ≠ 0)) <| gd (rdI M (grM M v0 6) v2) <| gd (decide (grM M v0 5 ≠ 0)) <| gd (rdI M (grM M v0 5) 2) <| if (giM M (grM M v0 5) (Int32.toNatClampNeg 2)) < (giM M (grM M v0 6) (Int32.toNatClampNeg v2)) then (BM_isWhole_67 K v0 v2 M) else (if v2 = 0 then (BM_isWhole_63 K v0 v2 M) else (gd (rdI M (grM M v0 6) (v2 - 1)) <| if (giM M (grM M v0 6) (Int32.toNatClampNeg v2)) ≤ (giM M (grM M v0 6) (Int32.toNatClampNeg (v2 - 1))) then (BM_isWhole_67 K v0 v2 M) else (BM_isWhole_63 K v0 v2 M)))))
def LM_isWhole_15 : Nat → Nat → Int32 → Int32 → Mem → Option ((Int32 × Mem))
  | 0 => fun _ _ _ _ => none
  | f + 1 => BM_isWhole_15 (LM_isWhole_15 f)
def BM_isWhole_12 (v0 : Nat) (w0 : Int32) (M : Mem) : Option (Int32 × Mem) :=
  (LM_isWhole_15 1000000 v0 w0 0 M).bind (fun r2 => some r2)
def fM_isWhole (v0 : Nat) (M : Mem) : Option (Int32 × Mem) :=
  gd (obM M v0 11 34) <| if (giM M v0 7) ≤ 0 then (BM_isWhole_12 v0 0 M) else (BM_isWhole_12 v0 1 M)
def BM_readArena_224 (v0 : Nat) (M : Mem) : Option (Int32 × Mem) :=
  gd (obM M v0 11 34) <| some (giM M v0 4, M)
def BM_readArena_220 (v0 : Nat) (M : Mem) : Option (Int32 × Mem) :=
  gd (obM M v0 11 34) <| (fM_bad v0 M).bind fun q1 => BM_readArena_224 v0 q1
def BM_readArena_197 (v0 : Nat) (M : Mem) : Option (Int32 × Mem) :=
  gd (obM M v0 11 34) <| if (giM M v0 4) = ((-1)) then ((fM_ahead v0 M).bind fun q2 => if q2.1 = ((-1)) then (gd (obM q2.2 v0 11 34) <| (fM_isWhole v0 q2.2).bind fun q3 => if q3.1 = 0 then (BM_readArena_220 v0 q3.2) else (BM_readArena_224 v0 q3.2)) else (BM_readArena_220 v0 q2.2)) else (BM_readArena_224 v0 M)
def BM_readArena_190 (K : Nat → Int32 → Int32 → Mem → Option ((Mem))) (v0 : Nat) (v1 : Int32) (v2 : Int32) (w0 : Nat) (w1 : Int32) (w2 : Int32) (M : Mem) : Option ((Mem)) :=
  gd (obM M w0 11 34) <| K v0 v1 v2 (siM M w0 3 (w1 + w2))
def BM_readArena_175 (K : Nat → Int32 → Int32 → Mem → Option ((Mem))) (v0 : Nat) (v1 : Int32) (w0 : Int32) (M : Mem) : Option ((Mem)) :=
  gd (obM M v0 11 34) <| if w0 = 0 then (BM_readArena_190 K v0 v1 w0 v0 (giM M v0 3) 0 M) else (BM_readArena_190 K v0 v1 w0 v0 (giM M v0 3) 1 M)
def BM_readArena_174 (K : Nat → Int32 → Int32 → Mem → Option ((Mem))) (v0 : Nat) (v1 : Int32) (M : Mem) : Option ((Mem)) :=
  BM_readArena_175 K v0 v1 0 M
def BM_readArena_153 (K : Nat → Int32 → Int32 → Mem → Option ((Mem))) (v0 : Nat) (v1 : Int32) (M : Mem) : Option ((Mem)) :=
  gd (obM M v0 11 34) <| if (giM M v0 4) = ((-1)) then ((fM_ahead v0 M).bind fun q2 => if q2.1 = 59 then (BM_readArena_175 K v0 v1 1 q2.2) else (BM_readArena_174 K v0 v1 q2.2)) else (BM_readArena_174 K v0 v1 M)
def BM_readArena_149 (K : Nat → Int32 → Int32 → Mem → Option ((Mem))) (v0 : Nat) (v1 : Int32) (M : Mem) : Option ((Mem)) :=
  gd (obM M v0 11 34) <| (fM_bad v0 M).bind fun q1 => BM_readArena_153 K v0 v1 q1
def BM_readArena_97 (K : Nat → Int32 → Int32 → Mem → Option ((Mem))) (v0 : Nat) (v1 : Int32) (v3 : Int32) (M : Mem) : Option ((Mem)) :=
  if v3 = 99 then (gd (obM M v0 11 34) <| if 6 ≤ (giM M v0 7) then (BM_readArena_149 K v0 v1 M) else (gd (decide (grM M v0 6 ≠ 0)) <| (fM_items v0 v3 (grM M v0 6) (giM (siM M v0 3 ((giM M v0 3) + 1)) v0 7) 1 (siM M v0 3 ((giM M v0 3) + 1))).bind fun q3 => gd (obM q3 v0 11 34) <| BM_readArena_153 K v0 v1 (siM q3 v0 7 ((giM q3 v0 7) + 1)))) else (BM_readArena_149 K v0 v1 M)
def BM_readArena_44 (K : Nat → Int32 → Int32 → Mem → Option ((Mem))) (v0 : Nat) (v1 : Int32) (v2 : Int32) (M : Mem) : Option ((Mem)) :=
  if v2 = 0 then (some M) else (gd (obM M v0 11 34) <| if (giM M v0 4) = ((-1)) then ((fM_ahead v0 M).bind fun q2 => if q2.1 = 115 then (if v1 = 0 then (gd (obM q2.2 v0 11 34) <| gd (decide (grM q2.2 v0 5 ≠ 0)) <| (fM_items v0 q2.1 (grM q2.2 v0 5) 0 5 (siM q2.2 v0 3 ((giM q2.2 v0 3) + 1))).bind fun q5 => BM_readArena_153 K v0 1 q5) else (BM_readArena_97 K v0 v1 q2.1 q2.2)) else (BM_readArena_97 K v0 v1 q2.1 q2.2)) else (some M))
def LM_readArena_44 : Nat → Nat → Int32 → Int32 → Mem → Option ((Mem))
  | 0 => fun _ _ _ _ => none
  | f + 1 => BM_readArena_44 (LM_readArena_44 f)
def BM_readArena_19 (K : Nat → Int32 → Int32 → Mem → Option ((Mem))) (v0 : Nat) (v1 : Int32) (v2 : Int32) (M : Mem) : Option ((Mem)) :=
  if 5 ≤ v2 then (some M) else (gd (obM M v0 11 34) <| gd (decide (grM M v0 5 ≠ 0)) <| (fM_usual 115 v2 M).bind fun q3 => gd (wrI q3.2 (grM M v0 5) v2) <| K v0 v1 (v2 + 1) (siM q3.2 (grM M v0 5) (Int32.toNatClampNeg v2) q3.1))
def LM_readArena_19 : Nat → Nat → Int32 → Int32 → Mem → Option ((Mem))
  | 0 => fun _ _ _ _ => none
  | f + 1 => BM_readArena_19 (LM_readArena_19 f)
def fM_readArena (v0 : Nat) (M : Mem) : Option (Int32 × Mem) :=
  gd (obM M v0 11 34) <| (LM_readArena_19 1000000 v0 0 0 (siM (siM (siM M v0 3 0) v0 4 ((-1))) v0 7 0)).bind (fun y3 => (LM_readArena_44 1000000 v0 0 1 y3).bind (fun y5 => BM_readArena_197 v0 y5))
def fM_sortOf (v0 : Int32) (M : Mem) : Option (Int32 × Mem) :=
  if v0 = 40 then (some (5, M)) else if v0 = 41 then (some (6, M)) else if v0 = 102 then (some (1, M)) else if v0 = 103 then (some (0, M)) else if v0 = 107 then (some (3, M)) else if v0 = 109 then (some (4, M)) else if v0 = 120 then (some (2, M)) else (some ((-1), M))
def BM_readStep_213 (w0 : Nat) (w1 : Int32) (w2 : Nat) (w3 : Int32) (w4 : Int32) (M : Mem) : Option (Mem) :=
  gd (obM M w2 11 34) <| (fM_number w2 w3 w4 M).bind fun q1 => gd (wrI q1.2 w0 w1) <| some (siM q1.2 w0 (Int32.toNatClampNeg w1) q1.1)
def BM_readStep_202 (v2 : Int32) (w0 : Nat) (w1 : Int32) (w2 : Nat) (w3 : Int32) (M : Mem) : Option (Mem) :=
  if v2 = 0 then (BM_readStep_213 w0 w1 w2 w3 40 M) else (BM_readStep_213 w0 w1 w2 w3 23 M)
def BM_readStep_80 (v0 : Nat) (v1 : Int32) (v2 : Int32) (w0 : Nat) (w1 : Int32) (w2 : Int32) (M : Mem) : Option (Mem) :=
  gd (obM M w0 11 34) <| gd (obM M v0 11 34) <| gd (decide (grM M v0 11 ≠ 0)) <| gd (wrI M (grM M v0 11) v1) <| gd (wrI M (grM M v0 11) (v1 + 1)) <| gd (wrI M (grM M v0 11) (v1 + 2)) <| if v2 < 5 then ((fM_ahead v0 (siM (siM (siM (siM M w0 14 (w1 + w2)) (grM M v0 11) (Int32.toNatClampNeg v1) v2) (grM M v0 11) (Int32.toNatClampNeg (v1 + 1)) ((-1))) (grM M v0 11) (Int32.toNatClampNeg (v1 + 2)) ((-1)))).bind fun q7 => (fM_isDigit q7.1 q7.2).bind fun q8 => if q8.1 = 0 then (gd (obM q8.2 v0 11 34) <| (fM_bad v0 q8.2).bind fun q19 => some q19) else (gd (obM q8.2 v0 11 34) <| gd (decide (grM q8.2 v0 11 ≠ 0)) <| (fM_here v0 q8.2).bind fun q11 => gd (wrI q11.2 (grM q8.2 v0 11) (v1 + 1)) <| gd (obM q11.2 v0 11 34) <| if v2 ≤ 1 then ((fM_ahead v0 (siM (siM q11.2 (grM q8.2 v0 11) (Int32.toNatClampNeg (v1 + 1)) (q11.1 - 48)) v0 3 ((giM (siM q11.2 (grM q8.2 v0 11) (Int32.toNatClampNeg (v1 + 1)) (q11.1 - 48)) v0 3) + 1))).bind fun q14 => if q14.1 = 58 then (gd (obM q14.2 v0 11 34) <| gd (decide (grM q14.2 v0 11 ≠ 0)) <| if v2 = 0 then (BM_readStep_202 v2 (grM q14.2 v0 11) (v1 + 2) v0 1 (siM q14.2 v0 3 ((giM q14.2 v0 3) + 1))) else (BM_readStep_202 v2 (grM q14.2 v0 11) (v1 + 2) v0 0 (siM q14.2 v0 3 ((giM q14.2 v0 3) + 1)))) else (gd (obM q14.2 v0 11 34) <| (fM_bad v0 q14.2).bind fun q17 => some q17)) else (some (siM (siM q11.2 (grM q8.2 v0 11) (Int32.toNatClampNeg (v1 + 1)) (q11.1 - 48)) v0 3 ((giM (siM q11.2 (grM q8.2 v0 11) (Int32.toNatClampNeg (v1 + 1)) (q11.1 - 48)) v0 3) + 1))))) else (some (siM (siM (siM (siM M w0 14 (w1 + w2)) (grM M v0 11) (Int32.toNatClampNeg v1) v2) (grM M v0 11) (Int32.toNatClampNeg (v1 + 1)) ((-1))) (grM M v0 11) (Int32.toNatClampNeg (v1 + 2)) ((-1))))
def BM_readStep_45 (v0 : Nat) (v1 : Int32) (v2 : Int32) (M : Mem) : Option (Mem) :=
  gd (obM M v0 11 34) <| if v2 = 5 then (BM_readStep_80 v0 v1 v2 v0 (giM (siM M v0 3 ((giM M v0 3) + 1)) v0 14) 1 (siM M v0 3 ((giM M v0 3) + 1))) else (if v2 = 6 then (BM_readStep_80 v0 v1 v2 v0 (giM (siM M v0 3 ((giM M v0 3) + 1)) v0 14) ((-1)) (siM M v0 3 ((giM M v0 3) + 1))) else (BM_readStep_80 v0 v1 v2 v0 (giM (siM M v0 3 ((giM M v0 3) + 1)) v0 14) 0 (siM M v0 3 ((giM M v0 3) + 1))))
def BM_readStep_40 (v0 : Nat) (M : Mem) : Option (Mem) :=
  gd (obM M v0 11 34) <| (fM_bad v0 M).bind fun q1 => some q1
def BM_readStep_27 (v0 : Nat) (v1 : Int32) (v2 : Int32) (M : Mem) : Option (Mem) :=
  if v2 = 6 then (gd (obM M v0 11 34) <| if (giM M v0 14) = 0 then (BM_readStep_40 v0 M) else (BM_readStep_45 v0 v1 v2 M)) else (BM_readStep_45 v0 v1 v2 M)
def fM_readStep (v0 : Nat) (v1 : Int32) (M : Mem) : Option (Mem) :=
  gd (obM M v0 11 34) <| (fM_ahead v0 M).bind fun q1 => (fM_sortOf q1.1 q1.2).bind fun q3 => if q3.1 = ((-1)) then (BM_readStep_40 v0 q3.2) else (if q3.1 = 5 then (gd (obM q3.2 v0 11 34) <| if (giM q3.2 v0 14) = 6 then (BM_readStep_40 v0 q3.2) else (BM_readStep_27 v0 v1 q3.1 q3.2)) else (BM_readStep_27 v0 v1 q3.1 q3.2))
def BM_readScript_137 (v0 : Nat) (M : Mem) : Option (Int32 × Mem) :=
  gd (obM M v0 11 34) <| some (giM M v0 4, M)
def BM_readScript_133 (v0 : Nat) (M : Mem) : Option (Int32 × Mem) :=
  gd (obM M v0 11 34) <| (fM_bad v0 M).bind fun q1 => BM_readScript_137 v0 q1
def BM_readScript_103 (K : Nat → Int32 → Int32 → Mem → Option ((Mem))) (v0 : Nat) (v1 : Int32) (v2 : Int32) (w0 : Nat) (w1 : Int32) (w2 : Int32) (M : Mem) : Option ((Mem)) :=
  gd (obM M w0 11 34) <| K v0 v1 v2 (siM M w0 3 (w1 + w2))
def BM_readScript_88 (K : Nat → Int32 → Int32 → Mem → Option ((Mem))) (v0 : Nat) (v1 : Int32) (w0 : Int32) (M : Mem) : Option ((Mem)) :=
  gd (obM M v0 11 34) <| if w0 = 0 then (BM_readScript_103 K v0 v1 w0 v0 (giM M v0 3) 0 M) else (BM_readScript_103 K v0 v1 w0 v0 (giM M v0 3) 1 M)
def BM_readScript_87 (K : Nat → Int32 → Int32 → Mem → Option ((Mem))) (v0 : Nat) (v1 : Int32) (M : Mem) : Option ((Mem)) :=
  BM_readScript_88 K v0 v1 0 M
def BM_readScript_24 (K : Nat → Int32 → Int32 → Mem → Option ((Mem))) (v0 : Nat) (v1 : Int32) (v2 : Int32) (M : Mem) : Option ((Mem)) :=
  if v2 = 0 then (some M) else (gd (obM M v0 11 34) <| gd (decide (grM M v0 12 ≠ 0)) <| gd (rdI M (grM M v0 12) v1) <| (fM_readStep v0 (3 * ((24 * v1) + (giM M (grM M v0 12) (Int32.toNatClampNeg v1)))) M).bind fun q4 => gd (obM q4 v0 11 34) <| gd (decide (grM q4 v0 12 ≠ 0)) <| gd (rdI q4 (grM q4 v0 12) v1) <| gd (wrI q4 (grM q4 v0 12) v1) <| if (giM (siM q4 (grM q4 v0 12) (Int32.toNatClampNeg v1) ((giM q4 (grM q4 v0 12) (Int32.toNatClampNeg v1)) + 1)) v0 4) = ((-1)) then ((fM_ahead v0 (siM q4 (grM q4 v0 12) (Int32.toNatClampNeg v1) ((giM q4 (grM q4 v0 12) (Int32.toNatClampNeg v1)) + 1))).bind fun q9 => if q9.1 = 59 then (gd (obM q9.2 v0 11 34) <| gd (decide (grM q9.2 v0 12 ≠ 0)) <| gd (rdI q9.2 (grM q9.2 v0 12) v1) <| if 24 ≤ (giM q9.2 (grM q9.2 v0 12) (Int32.toNatClampNeg v1)) then (BM_readScript_87 K v0 v1 q9.2) else (BM_readScript_88 K v0 v1 1 q9.2)) else (BM_readScript_87 K v0 v1 q9.2)) else (BM_readScript_87 K v0 v1 (siM q4 (grM q4 v0 12) (Int32.toNatClampNeg v1) ((giM q4 (grM q4 v0 12) (Int32.toNatClampNeg v1)) + 1))))
def LM_readScript_24 : Nat → Nat → Int32 → Int32 → Mem → Option ((Mem))
  | 0 => fun _ _ _ _ => none
  | f + 1 => BM_readScript_24 (LM_readScript_24 f)
def fM_readScript (v0 : Nat) (v1 : Int32) (M : Mem) : Option (Int32 × Mem) :=
  gd (obM M v0 11 34) <| gd (decide (grM M v0 12 ≠ 0)) <| gd (wrI M (grM M v0 12) v1) <| (LM_readScript_24 1000000 v0 v1 1 (siM (siM (siM (siM M v0 3 0) v0 4 ((-1))) (grM M v0 12) (Int32.toNatClampNeg v1) 0) v0 14 0)).bind (fun y5 => gd (obM y5 v0 11 34) <| if (giM y5 v0 4) = ((-1)) then ((fM_ahead v0 y5).bind fun q7 => if q7.1 = ((-1)) then (gd (obM q7.2 v0 11 34) <| if (giM q7.2 v0 14) ≤ 0 then (BM_readScript_137 v0 q7.2) else (BM_readScript_133 v0 q7.2)) else (BM_readScript_133 v0 q7.2)) else (BM_readScript_137 v0 y5))
def BM_fault_26 (w0 : Int32) (M : Mem) : Option (Int32 × Mem) :=
  some (w0, M)
def fM_fault (v0 : Nat) (v1 : Int32) (M : Mem) : Option (Int32 × Mem) :=
  if v1 = 0 then (gd (obM M v0 11 34) <| (fM_readArena v0 M).bind fun q3 => BM_fault_26 q3.1 q3.2) else (if v1 = 1 then (gd (obM M v0 11 34) <| (fM_readScript v0 4 M).bind fun q1 => BM_fault_26 q1.1 q1.2) else (BM_fault_26 ((-2)) M))
def BM_takeArena_83 (K : Nat → Int32 → Mem → Option ((Int32 × Mem))) (v0 : Nat) (v1 : Int32) (M : Mem) : Option ((Int32 × Mem)) :=
  gd (obM M v0 11 34) <| gd (decide (grM M v0 8 ≠ 0)) <| gd (rdI M (grM M v0 8) 0) <| if (giM M (grM M v0 8) (Int32.toNatClampNeg 0)) ≤ v1 then (some (giM (siM (siM M v0 25 0) v0 33 0) v0 10, siM (siM M v0 25 0) v0 33 0)) else (gd (decide (grM M v0 15 ≠ 0)) <| gd (wrI M (grM M v0 15) (3704 + v1)) <| K v0 (v1 + 1) (siM M (grM M v0 15) (Int32.toNatClampNeg (3704 + v1)) 1))
def LM_takeArena_83 : Nat → Nat → Int32 → Mem → Option ((Int32 × Mem))
  | 0 => fun _ _ _ => none
  | f + 1 => BM_takeArena_83 (LM_takeArena_83 f)
def BM_takeArena_61 (K : Nat → Int32 → Mem → Option ((Mem))) (v0 : Nat) (v1 : Int32) (M : Mem) : Option ((Mem)) :=
  if 3893 ≤ v1 then (some M) else (gd (obM M v0 11 34) <| gd (decide (grM M v0 15 ≠ 0)) <| gd (wrI M (grM M v0 15) v1) <| K v0 (v1 + 1) (siM M (grM M v0 15) (Int32.toNatClampNeg v1) 0))
def LM_takeArena_61 : Nat → Nat → Int32 → Mem → Option ((Mem))
  | 0 => fun _ _ _ => none
  | f + 1 => BM_takeArena_61 (LM_takeArena_61 f)
def BM_takeArena_35 (K : Nat → Int32 → Mem → Option ((Mem))) (v0 : Nat) (v1 : Int32) (M : Mem) : Option ((Mem)) :=
  if 6 ≤ v1 then (some M) else (gd (obM M v0 11 34) <| gd (decide (grM M v0 9 ≠ 0)) <| gd (decide (grM M v0 6 ≠ 0)) <| gd (rdI M (grM M v0 6) v1) <| gd (wrI M (grM M v0 9) v1) <| K v0 (v1 + 1) (siM M (grM M v0 9) (Int32.toNatClampNeg v1) (giM M (grM M v0 6) (Int32.toNatClampNeg v1))))
def LM_takeArena_35 : Nat → Nat → Int32 → Mem → Option ((Mem))
  | 0 => fun _ _ _ => none
  | f + 1 => BM_takeArena_35 (LM_takeArena_35 f)
def BM_takeArena_10 (K : Nat → Int32 → Mem → Option ((Mem))) (v0 : Nat) (v1 : Int32) (M : Mem) : Option ((Mem)) :=
  if 5 ≤ v1 then (some M) else (gd (obM M v0 11 34) <| gd (decide (grM M v0 8 ≠ 0)) <| gd (decide (grM M v0 5 ≠ 0)) <| gd (rdI M (grM M v0 5) v1) <| gd (wrI M (grM M v0 8) v1) <| K v0 (v1 + 1) (siM M (grM M v0 8) (Int32.toNatClampNeg v1) (giM M (grM M v0 5) (Int32.toNatClampNeg v1))))
def LM_takeArena_10 : Nat → Nat → Int32 → Mem → Option ((Mem))
  | 0 => fun _ _ _ => none
  | f + 1 => BM_takeArena_10 (LM_takeArena_10 f)
def fM_takeArena (v0 : Nat) (M : Mem) : Option (Int32 × Mem) :=
  gd (obM M v0 11 34) <| (LM_takeArena_10 1000000 v0 0 (siM M v0 10 (giM M v0 7))).bind (fun y3 => (LM_takeArena_35 1000000 v0 0 y3).bind (fun y5 => (LM_takeArena_61 1000000 v0 0 y5).bind (fun y7 => (LM_takeArena_83 1000000 v0 0 y7).bind (fun r9 => some r9))))
def BM_text_69 (M : Mem) : Option (Int32 × Mem) :=
  some ((-1), M)
def BM_text_22 (v0 : Nat) (v1 : Int32) (M : Mem) : Option (Int32 × Mem) :=
  if v1 = 1 then (gd (obM M v0 11 34) <| if 4 ≤ (giM M v0 13) then (BM_text_69  M) else ((fM_readScript v0 (giM M v0 13) M).bind fun q2 => if q2.1 = ((-1)) then (gd (obM q2.2 v0 11 34) <| some ((giM (siM (siM q2.2 v0 2 0) v0 13 ((giM (siM q2.2 v0 2 0) v0 13) + 1)) v0 13) - 1, siM (siM q2.2 v0 2 0) v0 13 ((giM (siM q2.2 v0 2 0) v0 13) + 1))) else (BM_text_69  q2.2))) else (BM_text_69  M)
def fM_text (v0 : Nat) (v1 : Int32) (M : Mem) : Option (Int32 × Mem) :=
  if v1 = 0 then (gd (obM M v0 11 34) <| (fM_readArena v0 M).bind fun q1 => if q1.1 = ((-1)) then (gd (obM q1.2 v0 11 34) <| (fM_takeArena v0 (siM q1.2 v0 2 0)).bind fun q4 => some (q4.1, q4.2)) else (BM_text_22 v0 v1 q1.2)) else (BM_text_22 v0 v1 M)
def BM_isArena_12 (w0 : Int32) (M : Mem) : Option (Int32 × Mem) :=
  gd (decide (w0 = 0 ∨ w0 = 1)) <| some (w0, M)
def fM_isArena (v0 : Nat) (M : Mem) : Option (Int32 × Mem) :=
  gd (obM M v0 11 34) <| if (giM M v0 10) ≤ 0 then (BM_isArena_12 0 M) else (BM_isArena_12 1 M)
def BM_rule_26 (w0 : Int32) (M : Mem) : Option (Int32 × Mem) :=
  some (w0, M)
def BM_rule_25 (M : Mem) : Option (Int32 × Mem) :=
  BM_rule_26 ((-1)) M
def fM_rule (v0 : Nat) (v1 : Int32) (M : Mem) : Option (Int32 × Mem) :=
  gd (obM M v0 11 34) <| (fM_isArena v0 M).bind fun q1 => if q1.1 = 0 then (BM_rule_25  q1.2) else ((fM_in v1 0 4 q1.2).bind fun q3 => if q3.1 = 0 then (BM_rule_25  q3.2) else (gd (obM q3.2 v0 11 34) <| gd (decide (grM q3.2 v0 8 ≠ 0)) <| gd (rdI q3.2 (grM q3.2 v0 8) v1) <| BM_rule_26 (giM q3.2 (grM q3.2 v0 8) (Int32.toNatClampNeg v1)) q3.2))
def BM_size_24 (w0 : Int32) (M : Mem) : Option (Int32 × Mem) :=
  some (w0, M)
def fM_size (v0 : Nat) (v1 : Int32) (M : Mem) : Option (Int32 × Mem) :=
  gd (obM M v0 11 34) <| (fM_in v1 0 ((giM M v0 10) - 1) M).bind fun q2 => if q2.1 = 0 then (BM_size_24 ((-1)) q2.2) else (gd (obM q2.2 v0 11 34) <| gd (decide (grM q2.2 v0 9 ≠ 0)) <| gd (rdI q2.2 (grM q2.2 v0 9) v1) <| BM_size_24 (giM q2.2 (grM q2.2 v0 9) (Int32.toNatClampNeg v1)) q2.2)
def BM_isPage_28 (w0 : Int32) (M : Mem) : Option (Int32 × Mem) :=
  gd (decide (w0 = 0 ∨ w0 = 1)) <| some (w0, M)
def BM_isPage_27 (M : Mem) : Option (Int32 × Mem) :=
  BM_isPage_28 0 M
def fM_isPage (v0 : Nat) (v1 : Int32) (M : Mem) : Option (Int32 × Mem) :=
  gd (obM M v0 11 34) <| (fM_isArena v0 M).bind fun q1 => if q1.1 = 0 then (BM_isPage_27  q1.2) else (gd (obM q1.2 v0 11 34) <| gd (decide (grM q1.2 v0 8 ≠ 0)) <| gd (rdI q1.2 (grM q1.2 v0 8) 1) <| (fM_in v1 0 ((giM q1.2 (grM q1.2 v0 8) (Int32.toNatClampNeg 1)) - 1) q1.2).bind fun q6 => if q6.1 = 0 then (BM_isPage_27  q6.2) else (BM_isPage_28 1 q6.2))
def fM_of (v0 : Nat) (v1 : Int32) (v2 : Int32) (M : Mem) : Option (Int32 × Mem) :=
  gd (obM M v0 11 34) <| gd (decide (grM M v0 15 ≠ 0)) <| gd (rdI M (grM M v0 15) ((166 * v1) + v2)) <| some (giM M (grM M v0 15) (Int32.toNatClampNeg ((166 * v1) + v2)), M)
def BM_isOwned_25 (w0 : Int32) (M : Mem) : Option (Int32 × Mem) :=
  gd (decide (w0 = 0 ∨ w0 = 1)) <| some (w0, M)
def BM_isOwned_20 (M : Mem) : Option (Int32 × Mem) :=
  BM_isOwned_25 1 M
def fM_isOwned (v0 : Nat) (v1 : Int32) (M : Mem) : Option (Int32 × Mem) :=
  gd (obM M v0 11 34) <| (fM_of v0 v1 0 M).bind fun q1 => if q1.1 = 1 then (BM_isOwned_20  q1.2) else (gd (obM q1.2 v0 11 34) <| (fM_of v0 v1 0 q1.2).bind fun q3 => if q3.1 = 2 then (BM_isOwned_20  q3.2) else (BM_isOwned_25 0 q3.2))
def BM_blocksOf_31 (w0 : Int32) (M : Mem) : Option (Int32 × Mem) :=
  some (w0, M)
def fM_blocksOf (v0 : Nat) (v1 : Int32) (M : Mem) : Option (Int32 × Mem) :=
  gd (obM M v0 11 34) <| (fM_of v0 v1 0 M).bind fun q1 => if q1.1 = 0 then (BM_blocksOf_31 0 q1.2) else (gd (obM q1.2 v0 11 34) <| gd (decide (grM q1.2 v0 8 ≠ 0)) <| gd (rdI q1.2 (grM q1.2 v0 8) 2) <| gd (decide (grM q1.2 v0 9 ≠ 0)) <| (fM_of v0 v1 2 q1.2).bind fun q7 => gd (rdI q7.2 (grM q1.2 v0 9) q7.1) <| gd (decide (¬ (giM q7.2 (grM q1.2 v0 9) (Int32.toNatClampNeg q7.1)) = 0)) <| BM_blocksOf_31 ((giM q1.2 (grM q1.2 v0 8) (Int32.toNatClampNeg 2)) / (giM q7.2 (grM q1.2 v0 9) (Int32.toNatClampNeg q7.1))) q7.2)
def fM_listAt (v0 : Int32) (v1 : Int32) (M : Mem) : Option (Int32 × Mem) :=
  some (((166 * v0) + 3) + (41 * v1), M)
def fM_listedOf (v0 : Nat) (v1 : Int32) (M : Mem) : Option (Int32 × Mem) :=
  gd (obM M v0 11 34) <| gd (decide (grM M v0 15 ≠ 0)) <| (fM_listAt v1 0 M).bind fun q3 => gd (rdI q3.2 (grM M v0 15) q3.1) <| gd (obM q3.2 v0 11 34) <| gd (decide (grM q3.2 v0 15 ≠ 0)) <| (fM_listAt v1 1 q3.2).bind fun q7 => gd (rdI q7.2 (grM q3.2 v0 15) q7.1) <| gd (obM q7.2 v0 11 34) <| gd (decide (grM q7.2 v0 15 ≠ 0)) <| (fM_listAt v1 2 q7.2).bind fun q11 => gd (rdI q11.2 (grM q7.2 v0 15) q11.1) <| some (((giM q3.2 (grM M v0 15) (Int32.toNatClampNeg q3.1)) + (giM q7.2 (grM q3.2 v0 15) (Int32.toNatClampNeg q7.1))) + (giM q11.2 (grM q7.2 v0 15) (Int32.toNatClampNeg q11.1)), q11.2)
def fM_usedOf (v0 : Nat) (v1 : Int32) (M : Mem) : Option (Int32 × Mem) :=
  gd (obM M v0 11 34) <| (fM_blocksOf v0 v1 M).bind fun q1 => gd (obM q1.2 v0 11 34) <| (fM_listedOf v0 v1 q1.2).bind fun q3 => some (q1.1 - q3.1, q3.2)
def BM_page_111 (w0 : Int32) (M : Mem) : Option (Int32 × Mem) :=
  some (w0, M)
def BM_page_96 (w0 : Int32) (M : Mem) : Option (Int32 × Mem) :=
  some (w0, M)
def BM_page_24 (v0 : Nat) (v1 : Int32) (v2 : Int32) (w0 : Nat) (w1 : Int32) (M : Mem) : Option (Int32 × Mem) :=
  gd (obM M w0 11 34) <| gd (obM M v0 11 34) <| if (giM (siM M w0 0 w1) v0 0) = 1 then (some (0, siM M w0 0 w1)) else ((fM_of v0 v1 0 (siM M w0 0 w1)).bind fun q3 => if v2 = 0 then (some (q3.1, q3.2)) else if v2 = 1 then (gd (obM q3.2 v0 11 34) <| (fM_isOwned v0 v1 q3.2).bind fun q4 => if q4.1 = 0 then (BM_page_96 ((-1)) q4.2) else (gd (obM q4.2 v0 11 34) <| (fM_of v0 v1 1 q4.2).bind fun q6 => BM_page_96 q6.1 q6.2)) else if v2 = 2 then (if q3.1 = 0 then (BM_page_111 ((-1)) q3.2) else (gd (obM q3.2 v0 11 34) <| (fM_of v0 v1 2 q3.2).bind fun q8 => BM_page_111 q8.1 q8.2)) else if v2 = 3 then (gd (obM q3.2 v0 11 34) <| (fM_usedOf v0 v1 q3.2).bind fun q10 => some (q10.1, q10.2)) else (gd (obM q3.2 v0 11 34) <| gd (decide (grM q3.2 v0 15 ≠ 0)) <| (fM_listAt v1 (v2 - 4) q3.2).bind fun q14 => gd (rdI q14.2 (grM q3.2 v0 15) q14.1) <| some (giM q14.2 (grM q3.2 v0 15) (Int32.toNatClampNeg q14.1), q14.2)))
def BM_page_23 (v0 : Nat) (v1 : Int32) (v2 : Int32) (w0 : Nat) (M : Mem) : Option (Int32 × Mem) :=
  BM_page_24 v0 v1 v2 w0 1 M
def fM_page (v0 : Nat) (v1 : Int32) (v2 : Int32) (M : Mem) : Option (Int32 × Mem) :=
  gd (obM M v0 11 34) <| (fM_isPage v0 v1 M).bind fun q1 => if q1.1 = 0 then (BM_page_23 v0 v1 v2 v0 q1.2) else ((fM_in v2 0 6 q1.2).bind fun q3 => if q3.1 = 0 then (BM_page_23 v0 v1 v2 v0 q3.2) else (BM_page_24 v0 v1 v2 v0 0 q3.2))
def BM_list_55 (w0 : Int32) (M : Mem) : Option (Int32 × Mem) :=
  some (w0, M)
def BM_list_54 (M : Mem) : Option (Int32 × Mem) :=
  BM_list_55 ((-1)) M
def fM_list (v0 : Nat) (v1 : Int32) (v2 : Int32) (v3 : Int32) (M : Mem) : Option (Int32 × Mem) :=
  gd (obM M v0 11 34) <| (fM_isPage v0 v1 M).bind fun q1 => if q1.1 = 0 then (BM_list_54  q1.2) else ((fM_in v2 0 2 q1.2).bind fun q3 => if q3.1 = 0 then (BM_list_54  q3.2) else (gd (obM q3.2 v0 11 34) <| gd (decide (grM q3.2 v0 15 ≠ 0)) <| (fM_listAt v1 v2 q3.2).bind fun q6 => gd (rdI q6.2 (grM q3.2 v0 15) q6.1) <| (fM_in v3 0 ((giM q6.2 (grM q3.2 v0 15) (Int32.toNatClampNeg q6.1)) - 1) q6.2).bind fun q8 => if q8.1 = 0 then (BM_list_54  q8.2) else (gd (obM q8.2 v0 11 34) <| gd (decide (grM q8.2 v0 15 ≠ 0)) <| (fM_listAt v1 v2 q8.2).bind fun q11 => gd (rdI q11.2 (grM q8.2 v0 15) ((q11.1 + 1) + v3)) <| BM_list_55 (giM q11.2 (grM q8.2 v0 15) (Int32.toNatClampNeg ((q11.1 + 1) + v3))) q11.2)))
def BM_isThread_28 (w0 : Int32) (M : Mem) : Option (Int32 × Mem) :=
  gd (decide (w0 = 0 ∨ w0 = 1)) <| some (w0, M)
def BM_isThread_27 (M : Mem) : Option (Int32 × Mem) :=
  BM_isThread_28 0 M
def fM_isThread (v0 : Nat) (v1 : Int32) (M : Mem) : Option (Int32 × Mem) :=
  gd (obM M v0 11 34) <| (fM_isArena v0 M).bind fun q1 => if q1.1 = 0 then (BM_isThread_27  q1.2) else (gd (obM q1.2 v0 11 34) <| gd (decide (grM q1.2 v0 8 ≠ 0)) <| gd (rdI q1.2 (grM q1.2 v0 8) 0) <| (fM_in v1 0 ((giM q1.2 (grM q1.2 v0 8) (Int32.toNatClampNeg 0)) - 1) q1.2).bind fun q6 => if q6.1 = 0 then (BM_isThread_27  q6.2) else (BM_isThread_28 1 q6.2))
def BM_isOf_23 (w0 : Int32) (M : Mem) : Option (Int32 × Mem) :=
  gd (decide (w0 = 0 ∨ w0 = 1)) <| some (w0, M)
def BM_isOf_22 (M : Mem) : Option (Int32 × Mem) :=
  BM_isOf_23 0 M
def fM_isOf (v0 : Nat) (v1 : Int32) (v2 : Int32) (M : Mem) : Option (Int32 × Mem) :=
  gd (obM M v0 11 34) <| (fM_isOwned v0 v1 M).bind fun q1 => if q1.1 = 0 then (BM_isOf_22  q1.2) else (gd (obM q1.2 v0 11 34) <| (fM_of v0 v1 1 q1.2).bind fun q3 => if q3.1 = v2 then (BM_isOf_23 1 q3.2) else (BM_isOf_22  q3.2))
def BM_ownedBy_29 (K : Nat → Int32 → Int32 → Int32 → Mem → Option ((Int32 × Mem))) (v0 : Nat) (v1 : Int32) (v3 : Int32) (w0 : Int32) (w1 : Int32) (M : Mem) : Option ((Int32 × Mem)) :=
  K v0 v1 (w0 + w1) (v3 + 1) M
def BM_ownedBy_4 (K : Nat → Int32 → Int32 → Int32 → Mem → Option ((Int32 × Mem))) (v0 : Nat) (v1 : Int32) (v2 : Int32) (v3 : Int32) (M : Mem) : Option ((Int32 × Mem)) :=
  gd (obM M v0 11 34) <| gd (decide (grM M v0 8 ≠ 0)) <| gd (rdI M (grM M v0 8) 1) <| if (giM M (grM M v0 8) (Int32.toNatClampNeg 1)) ≤ v3 then (some (v2, M)) else ((fM_isOf v0 v3 v1 M).bind fun q4 => if q4.1 = 0 then (BM_ownedBy_29 K v0 v1 v3 v2 0 q4.2) else (BM_ownedBy_29 K v0 v1 v3 v2 1 q4.2))
def LM_ownedBy_4 : Nat → Nat → Int32 → Int32 → Int32 → Mem → Option ((Int32 × Mem))
  | 0 => fun _ _ _ _ _ => none
  | f + 1 => BM_ownedBy_4 (LM_ownedBy_4 f)
def fM_ownedBy (v0 : Nat) (v1 : Int32) (M : Mem) : Option (Int32 × Mem) :=
  (LM_ownedBy_4 1000000 v0 v1 0 0 M).bind (fun r2 => some r2)
def fM_boxAt (v0 : Int32) (v1 : Int32) (M : Mem) : Option (Int32 × Mem) :=
  some (3064 + (10 * ((16 * v0) + v1)), M)
def BM_boxedBy_4 (K : Nat → Int32 → Int32 → Int32 → Mem → Option ((Int32 × Mem))) (v0 : Nat) (v1 : Int32) (v2 : Int32) (v3 : Int32) (M : Mem) : Option ((Int32 × Mem)) :=
  gd (obM M v0 11 34) <| gd (decide (grM M v0 8 ≠ 0)) <| gd (rdI M (grM M v0 8) 1) <| if (giM M (grM M v0 8) (Int32.toNatClampNeg 1)) ≤ v3 then (some (v2, M)) else (gd (decide (grM M v0 15 ≠ 0)) <| (fM_boxAt v1 v3 M).bind fun q5 => gd (rdI q5.2 (grM M v0 15) q5.1) <| K v0 v1 (v2 + (giM q5.2 (grM M v0 15) (Int32.toNatClampNeg q5.1))) (v3 + 1) q5.2)
def LM_boxedBy_4 : Nat → Nat → Int32 → Int32 → Int32 → Mem → Option ((Int32 × Mem))
  | 0 => fun _ _ _ _ _ => none
  | f + 1 => BM_boxedBy_4 (LM_boxedBy_4 f)
def fM_boxedBy (v0 : Nat) (v1 : Int32) (M : Mem) : Option (Int32 × Mem) :=
  (LM_boxedBy_4 1000000 v0 v1 0 0 M).bind (fun r2 => some r2)
def BM_thread_17 (M : Mem) : Option (Int32 × Mem) :=
  some ((-1), M)
def fM_thread (v0 : Nat) (v1 : Int32) (v2 : Int32) (M : Mem) : Option (Int32 × Mem) :=
  gd (obM M v0 11 34) <| (fM_isThread v0 v1 M).bind fun q1 => if q1.1 = 0 then (BM_thread_17  q1.2) else ((fM_in v2 0 3 q1.2).bind fun q3 => if q3.1 = 0 then (BM_thread_17  q3.2) else (if v2 = 0 then (gd (obM q3.2 v0 11 34) <| gd (decide (grM q3.2 v0 15 ≠ 0)) <| gd (rdI q3.2 (grM q3.2 v0 15) (3704 + v1)) <| some (giM q3.2 (grM q3.2 v0 15) (Int32.toNatClampNeg (3704 + v1)), q3.2)) else if v2 = 1 then (gd (obM q3.2 v0 11 34) <| (fM_ownedBy v0 v1 q3.2).bind fun q7 => some (q7.1, q7.2)) else if v2 = 2 then (gd (obM q3.2 v0 11 34) <| gd (decide (grM q3.2 v0 15 ≠ 0)) <| gd (rdI q3.2 (grM q3.2 v0 15) (3708 + v1)) <| some (giM q3.2 (grM q3.2 v0 15) (Int32.toNatClampNeg (3708 + v1)), q3.2)) else (gd (obM q3.2 v0 11 34) <| (fM_boxedBy v0 v1 q3.2).bind fun q12 => some (q12.1, q12.2))))
def fM_queueAt (v0 : Int32) (v1 : Int32) (M : Mem) : Option (Int32 × Mem) :=
  some (2656 + (17 * ((6 * v0) + v1)), M)
def BM_queue_60 (w0 : Int32) (M : Mem) : Option (Int32 × Mem) :=
  some (w0, M)
def BM_queue_59 (M : Mem) : Option (Int32 × Mem) :=
  BM_queue_60 ((-1)) M
def fM_queue (v0 : Nat) (v1 : Int32) (v2 : Int32) (v3 : Int32) (M : Mem) : Option (Int32 × Mem) :=
  gd (obM M v0 11 34) <| (fM_isThread v0 v1 M).bind fun q1 => if q1.1 = 0 then (BM_queue_59  q1.2) else (gd (obM q1.2 v0 11 34) <| (fM_in v2 0 ((giM q1.2 v0 10) - 1) q1.2).bind fun q4 => if q4.1 = 0 then (BM_queue_59  q4.2) else (gd (obM q4.2 v0 11 34) <| gd (decide (grM q4.2 v0 15 ≠ 0)) <| (fM_queueAt v1 v2 q4.2).bind fun q7 => gd (rdI q7.2 (grM q4.2 v0 15) q7.1) <| (fM_in v3 0 ((giM q7.2 (grM q4.2 v0 15) (Int32.toNatClampNeg q7.1)) - 1) q7.2).bind fun q9 => if q9.1 = 0 then (BM_queue_59  q9.2) else (gd (obM q9.2 v0 11 34) <| gd (decide (grM q9.2 v0 15 ≠ 0)) <| (fM_queueAt v1 v2 q9.2).bind fun q12 => gd (rdI q12.2 (grM q9.2 v0 15) ((q12.1 + 1) + v3)) <| BM_queue_60 (giM q12.2 (grM q9.2 v0 15) (Int32.toNatClampNeg ((q12.1 + 1) + v3))) q12.2)))
def BM_outbox_54 (w0 : Int32) (M : Mem) : Option (Int32 × Mem) :=
  some (w0, M)
def BM_outbox_53 (M : Mem) : Option (Int32 × Mem) :=
  BM_outbox_54 ((-1)) M
def fM_outbox (v0 : Nat) (v1 : Int32) (v2 : Int32) (v3 : Int32) (M : Mem) : Option (Int32 × Mem) :=
  gd (obM M v0 11 34) <| (fM_isThread v0 v1 M).bind fun q1 => if q1.1 = 0 then (BM_outbox_53  q1.2) else (gd (obM q1.2 v0 11 34) <| (fM_isPage v0 v2 q1.2).bind fun q3 => if q3.1 = 0 then (BM_outbox_53  q3.2) else (gd (obM q3.2 v0 11 34) <| gd (decide (grM q3.2 v0 15 ≠ 0)) <| (fM_boxAt v1 v2 q3.2).bind fun q7 => gd (rdI q7.2 (grM q3.2 v0 15) q7.1) <| (fM_in v3 0 ((giM q7.2 (grM q3.2 v0 15) (Int32.toNatClampNeg q7.1)) - 1) q7.2).bind fun q9 => if q9.1 = 0 then (BM_outbox_53  q9.2) else (gd (obM q9.2 v0 11 34) <| gd (decide (grM q9.2 v0 15 ≠ 0)) <| (fM_boxAt v1 v2 q9.2).bind fun q12 => gd (rdI q12.2 (grM q9.2 v0 15) ((q12.1 + 1) + v3)) <| BM_outbox_54 (giM q12.2 (grM q9.2 v0 15) (Int32.toNatClampNeg ((q12.1 + 1) + v3))) q12.2)))
def BM_isBlock_35 (w0 : Int32) (M : Mem) : Option (Int32 × Mem) :=
  gd (decide (w0 = 0 ∨ w0 = 1)) <| some (w0, M)
def BM_isBlock_34 (M : Mem) : Option (Int32 × Mem) :=
  BM_isBlock_35 0 M
def fM_isBlock (v0 : Nat) (v1 : Int32) (M : Mem) : Option (Int32 × Mem) :=
  if v1 < 0 then (BM_isBlock_34  M) else (gd (obM M v0 11 34) <| (fM_isPage v0 (v1 / 100) M).bind fun q1 => if q1.1 = 0 then (BM_isBlock_34  q1.2) else (gd (obM q1.2 v0 11 34) <| (fM_blocksOf v0 (v1 / 100) q1.2).bind fun q3 => if q3.1 ≤ (v1 - v1 / 100 * 100) then (BM_isBlock_34  q3.2) else (BM_isBlock_35 1 q3.2)))
def BM_isHeld_24 (w0 : Int32) (M : Mem) : Option (Int32 × Mem) :=
  gd (decide (w0 = 0 ∨ w0 = 1)) <| some (w0, M)
def fM_isHeld (v0 : Nat) (v1 : Int32) (M : Mem) : Option (Int32 × Mem) :=
  gd (obM M v0 11 34) <| (fM_of v0 (v1 / 100) (126 + (v1 - v1 / 100 * 100)) M).bind fun q1 => if q1.1 = 1 then (BM_isHeld_24 1 q1.2) else (BM_isHeld_24 0 q1.2)
def BM_held_25 (w0 : Int32) (M : Mem) : Option (Int32 × Mem) :=
  some (w0, M)
def fM_held (v0 : Nat) (v1 : Int32) (M : Mem) : Option (Int32 × Mem) :=
  gd (obM M v0 11 34) <| (fM_isBlock v0 v1 M).bind fun q1 => if q1.1 = 0 then (BM_held_25 ((-1)) q1.2) else (gd (obM q1.2 v0 11 34) <| (fM_isHeld v0 v1 q1.2).bind fun q3 => if q3.1 = 0 then (BM_held_25 0 q3.2) else (BM_held_25 1 q3.2))
def BM_classFor_2 (K : Nat → Int32 → Int32 → Mem → Option ((Int32 × Mem))) (v0 : Nat) (v1 : Int32) (v2 : Int32) (M : Mem) : Option ((Int32 × Mem)) :=
  gd (obM M v0 11 34) <| if (giM M v0 10) ≤ v2 then (some ((-1), M)) else (gd (decide (grM M v0 9 ≠ 0)) <| gd (rdI M (grM M v0 9) v2) <| if (giM M (grM M v0 9) (Int32.toNatClampNeg v2)) < v1 then (K v0 v1 (v2 + 1) M) else (some (v2, M)))
def LM_classFor_2 : Nat → Nat → Int32 → Int32 → Mem → Option ((Int32 × Mem))
  | 0 => fun _ _ _ _ => none
  | f + 1 => BM_classFor_2 (LM_classFor_2 f)
def fM_classFor (v0 : Nat) (v1 : Int32) (M : Mem) : Option (Int32 × Mem) :=
  (LM_classFor_2 1000000 v0 v1 0 M).bind (fun r2 => some r2)
def BM_isAsked_24 (w0 : Int32) (M : Mem) : Option (Int32 × Mem) :=
  gd (decide (w0 = 0 ∨ w0 = 1)) <| some (w0, M)
def BM_isAsked_23 (M : Mem) : Option (Int32 × Mem) :=
  BM_isAsked_24 0 M
def fM_isAsked (v0 : Nat) (v1 : Int32) (M : Mem) : Option (Int32 × Mem) :=
  (fM_in v1 1 40 M).bind fun q1 => if q1.1 = 0 then (BM_isAsked_23  q1.2) else (gd (obM q1.2 v0 11 34) <| (fM_classFor v0 v1 q1.2).bind fun q2 => if q2.1 = ((-1)) then (BM_isAsked_23  q2.2) else (BM_isAsked_24 1 q2.2))
def BM_doesLive_27 (w0 : Int32) (M : Mem) : Option (Int32 × Mem) :=
  gd (decide (w0 = 0 ∨ w0 = 1)) <| some (w0, M)
def BM_doesLive_26 (M : Mem) : Option (Int32 × Mem) :=
  BM_doesLive_27 0 M
def fM_doesLive (v0 : Nat) (v1 : Int32) (M : Mem) : Option (Int32 × Mem) :=
  gd (obM M v0 11 34) <| (fM_isThread v0 v1 M).bind fun q1 => if q1.1 = 0 then (BM_doesLive_26  q1.2) else (gd (obM q1.2 v0 11 34) <| gd (decide (grM q1.2 v0 15 ≠ 0)) <| gd (rdI q1.2 (grM q1.2 v0 15) (3704 + v1)) <| if (giM q1.2 (grM q1.2 v0 15) (Int32.toNatClampNeg (3704 + v1))) = 1 then (BM_doesLive_27 1 q1.2) else (BM_doesLive_26  q1.2))
def BM_otherPage_66 (K : Nat → Int32 → Int32 → Int32 → Mem → Option ((Int32 × Mem))) (v0 : Nat) (v1 : Int32) (v2 : Int32) (v3 : Int32) (w0 : Int32) (M : Mem) : Option ((Int32 × Mem)) :=
  if w0 = 0 then (K v0 v1 v2 (v3 + 1) M) else (some (v3, M))
def BM_otherPage_48 (K : Nat → Int32 → Int32 → Int32 → Mem → Option ((Int32 × Mem))) (v0 : Nat) (v1 : Int32) (v2 : Int32) (v3 : Int32) (M : Mem) : Option ((Int32 × Mem)) :=
  BM_otherPage_66 K v0 v1 v2 v3 0 M
def BM_otherPage_2 (K : Nat → Int32 → Int32 → Int32 → Mem → Option ((Int32 × Mem))) (v0 : Nat) (v1 : Int32) (v2 : Int32) (v3 : Int32) (M : Mem) : Option ((Int32 × Mem)) :=
  gd (obM M v0 11 34) <| gd (decide (grM M v0 8 ≠ 0)) <| gd (rdI M (grM M v0 8) 1) <| if (giM M (grM M v0 8) (Int32.toNatClampNeg 1)) ≤ v3 then (some ((-1), M)) else (if v2 = 0 then ((fM_of v0 v3 0 M).bind fun q4 => if q4.1 = 0 then (BM_otherPage_66 K v0 v1 v2 v3 1 q4.2) else (BM_otherPage_66 K v0 v1 v2 v3 0 q4.2)) else ((fM_of v0 v3 0 M).bind fun q5 => if q5.1 = 3 then (gd (obM q5.2 v0 11 34) <| (fM_of v0 v3 2 q5.2).bind fun q6 => if q6.1 = v1 then (gd (obM q6.2 v0 11 34) <| (fM_listedOf v0 v3 q6.2).bind fun q8 => if q8.1 ≤ 0 then (BM_otherPage_48 K v0 v1 v2 v3 q8.2) else (BM_otherPage_66 K v0 v1 v2 v3 1 q8.2)) else (BM_otherPage_48 K v0 v1 v2 v3 q6.2)) else (BM_otherPage_48 K v0 v1 v2 v3 q5.2)))
def LM_otherPage_2 : Nat → Nat → Int32 → Int32 → Int32 → Mem → Option ((Int32 × Mem))
  | 0 => fun _ _ _ _ _ => none
  | f + 1 => BM_otherPage_2 (LM_otherPage_2 f)
def fM_otherPage (v0 : Nat) (v1 : Int32) (v2 : Int32) (M : Mem) : Option (Int32 × Mem) :=
  (LM_otherPage_2 1000000 v0 v1 v2 0 M).bind (fun r2 => some r2)
def BM_canGet_69 (w0 : Int32) (M : Mem) : Option (Int32 × Mem) :=
  gd (decide (w0 = 0 ∨ w0 = 1)) <| some (w0, M)
def BM_canGet_64 (M : Mem) : Option (Int32 × Mem) :=
  BM_canGet_69 1 M
def BM_canGet_9 (K : Nat → Int32 → Int32 → Int32 → Mem → Option ((Int32 × Mem) ⊕ (Mem))) (v0 : Nat) (v2 : Int32) (v3 : Int32) (v4 : Int32) (M : Mem) : Option ((Int32 × Mem) ⊕ (Mem)) :=
  gd (obM M v0 11 34) <| gd (decide (grM M v0 15 ≠ 0)) <| gd (rdI M (grM M v0 15) v3) <| if (giM M (grM M v0 15) (Int32.toNatClampNeg v3)) < v4 then (some (.inr M)) else (gd (rdI M (grM M v0 15) (v3 + v4)) <| (fM_listedOf v0 (giM M (grM M v0 15) (Int32.toNatClampNeg (v3 + v4))) M).bind fun q5 => if q5.1 ≤ 0 then (K v0 v2 v3 (v4 + 1) q5.2) else (some (.inl (1, q5.2))))
def LM_canGet_9 : Nat → Nat → Int32 → Int32 → Int32 → Mem → Option ((Int32 × Mem) ⊕ (Mem))
  | 0 => fun _ _ _ _ _ => none
  | f + 1 => BM_canGet_9 (LM_canGet_9 f)
def fM_canGet (v0 : Nat) (v1 : Int32) (v2 : Int32) (M : Mem) : Option (Int32 × Mem) :=
  (fM_queueAt v1 v2 M).bind fun q1 => (LM_canGet_9 1000000 v0 v2 q1.1 1 q1.2).bind (Sum.elim (fun r3 => some r3) (fun y4 => gd (obM y4 v0 11 34) <| (fM_otherPage v0 v2 1 y4).bind fun q5 => if q5.1 = ((-1)) then (gd (obM q5.2 v0 11 34) <| (fM_otherPage v0 v2 0 q5.2).bind fun q7 => if q7.1 = ((-1)) then (BM_canGet_69 0 q7.2) else (BM_canGet_64  q7.2)) else (BM_canGet_64  q5.2)))
def BM_isRefused_25 (w0 : Int32) (M : Mem) : Option (Int32 × Mem) :=
  gd (decide (w0 = 0 ∨ w0 = 1)) <| some (w0, M)
def BM_isRefused_15 (v1 : Int32) (M : Mem) : Option (Int32 × Mem) :=
  if v1 = ((-1)) then (BM_isRefused_25 0 M) else (BM_isRefused_25 1 M)
def fM_isRefused (v0 : Nat) (v1 : Int32) (M : Mem) : Option (Int32 × Mem) :=
  if v1 = ((-1)) then (BM_isRefused_15 v1 M) else (gd (obM M v0 11 34) <| gd (decide (grM M v0 16 ≠ 0)) <| gd (rdI M (grM M v0 16) v1) <| gd (wrI M (grM M v0 16) v1) <| BM_isRefused_15 v1 (siM M (grM M v0 16) (Int32.toNatClampNeg v1) ((giM M (grM M v0 16) (Int32.toNatClampNeg v1)) + 1)))
def BM_keep_53 (K : Nat → Int32 → Mem → Option ((Mem))) (v0 : Nat) (v1 : Int32) (M : Mem) : Option ((Mem)) :=
  if 3893 ≤ v1 then (gd (obM M v0 11 34) <| some (siM M v0 25 ((giM M v0 25) + 1))) else (gd (obM M v0 11 34) <| gd (decide (grM M v0 24 ≠ 0)) <| gd (decide (grM M v0 15 ≠ 0)) <| gd (rdI M (grM M v0 15) v1) <| gd (wrI M (grM M v0 24) ((3893 * (giM M v0 25)) + v1)) <| K v0 (v1 + 1) (siM M (grM M v0 24) (Int32.toNatClampNeg ((3893 * (giM M v0 25)) + v1)) (giM M (grM M v0 15) (Int32.toNatClampNeg v1))))
def LM_keep_53 : Nat → Nat → Int32 → Mem → Option ((Mem))
  | 0 => fun _ _ _ => none
  | f + 1 => BM_keep_53 (LM_keep_53 f)
def BM_keep_51 (v0 : Nat) (M : Mem) : Option (Mem) :=
  (LM_keep_53 1000000 v0 0 M).bind (fun r2 => some r2)
def BM_keep_13 (K : Nat → Int32 → Mem → Option ((Mem))) (v0 : Nat) (v1 : Int32) (M : Mem) : Option ((Mem)) :=
  if 155720 ≤ v1 then (some M) else (gd (obM M v0 11 34) <| gd (decide (grM M v0 24 ≠ 0)) <| gd (rdI M (grM M v0 24) v1) <| gd (wrI M (grM M v0 24) (v1 - 3893)) <| K v0 (v1 + 1) (siM M (grM M v0 24) (Int32.toNatClampNeg (v1 - 3893)) (giM M (grM M v0 24) (Int32.toNatClampNeg v1))))
def LM_keep_13 : Nat → Nat → Int32 → Mem → Option ((Mem))
  | 0 => fun _ _ _ => none
  | f + 1 => BM_keep_13 (LM_keep_13 f)
def fM_keep (v0 : Nat) (M : Mem) : Option (Mem) :=
  gd (obM M v0 11 34) <| if (giM M v0 25) = 40 then ((LM_keep_13 1000000 v0 3893 M).bind (fun y3 => gd (obM y3 v0 11 34) <| BM_keep_51 v0 (siM y3 v0 25 ((giM y3 v0 25) - 1)))) else (BM_keep_51 v0 M)
def BM_addFirst_7 (K : Nat → Int32 → Int32 → Int32 → Mem → Option ((Mem))) (v0 : Nat) (v1 : Int32) (v2 : Int32) (v3 : Int32) (M : Mem) : Option ((Mem)) :=
  if v3 ≤ 0 then (gd (obM M v0 11 34) <| gd (decide (grM M v0 15 ≠ 0)) <| gd (rdI M (grM M v0 15) v1) <| gd (wrI M (grM M v0 15) v1) <| gd (wrI M (grM M v0 15) (v1 + 1)) <| some (siM (siM M (grM M v0 15) (Int32.toNatClampNeg v1) ((giM M (grM M v0 15) (Int32.toNatClampNeg v1)) + 1)) (grM M v0 15) (Int32.toNatClampNeg (v1 + 1)) v2)) else (gd (obM M v0 11 34) <| gd (decide (grM M v0 15 ≠ 0)) <| gd (rdI M (grM M v0 15) (v1 + v3)) <| gd (wrI M (grM M v0 15) ((v1 + v3) + 1)) <| K v0 v1 v2 (v3 + (-1)) (siM M (grM M v0 15) (Int32.toNatClampNeg ((v1 + v3) + 1)) (giM M (grM M v0 15) (Int32.toNatClampNeg (v1 + v3)))))
def LM_addFirst_7 : Nat → Nat → Int32 → Int32 → Int32 → Mem → Option ((Mem))
  | 0 => fun _ _ _ _ _ => none
  | f + 1 => BM_addFirst_7 (LM_addFirst_7 f)
def fM_addFirst (v0 : Nat) (v1 : Int32) (v2 : Int32) (M : Mem) : Option (Mem) :=
  gd (obM M v0 11 34) <| gd (decide (grM M v0 15 ≠ 0)) <| gd (rdI M (grM M v0 15) v1) <| (LM_addFirst_7 1000000 v0 v1 v2 (giM M (grM M v0 15) (Int32.toNatClampNeg v1)) M).bind (fun r5 => some r5)
def BM_moveAhead_7 (K : Nat → Int32 → Int32 → Int32 → Mem → Option ((Mem))) (v0 : Nat) (v1 : Int32) (v2 : Int32) (v3 : Int32) (M : Mem) : Option ((Mem)) :=
  if v3 ≤ 0 then (gd (obM M v0 11 34) <| gd (decide (grM M v0 15 ≠ 0)) <| gd (wrI M (grM M v0 15) v1) <| some (siM M (grM M v0 15) (Int32.toNatClampNeg v1) 0)) else (gd (obM M v0 11 34) <| gd (decide (grM M v0 15 ≠ 0)) <| gd (rdI M (grM M v0 15) (v1 + v3)) <| (fM_addFirst v0 v2 (giM M (grM M v0 15) (Int32.toNatClampNeg (v1 + v3))) M).bind fun q7 => K v0 v1 v2 (v3 + (-1)) q7)
def LM_moveAhead_7 : Nat → Nat → Int32 → Int32 → Int32 → Mem → Option ((Mem))
  | 0 => fun _ _ _ _ _ => none
  | f + 1 => BM_moveAhead_7 (LM_moveAhead_7 f)
def fM_moveAhead (v0 : Nat) (v1 : Int32) (v2 : Int32) (M : Mem) : Option (Mem) :=
  gd (obM M v0 11 34) <| gd (decide (grM M v0 15 ≠ 0)) <| gd (rdI M (grM M v0 15) v1) <| (LM_moveAhead_7 1000000 v0 v1 v2 (giM M (grM M v0 15) (Int32.toNatClampNeg v1)) M).bind (fun r5 => some r5)
def BM_collect_60 (w0 : Int32) (M : Mem) : Option (Int32 × Mem) :=
  some (w0, M)
def BM_collect_35 (v0 : Nat) (v1 : Int32) (v2 : Int32) (w0 : Int32) (M : Mem) : Option (Int32 × Mem) :=
  (fM_listAt v1 w0 M).bind fun q1 => gd (obM q1.2 v0 11 34) <| (fM_moveAhead v0 q1.1 v2 q1.2).bind fun q2 => gd (obM q2 v0 11 34) <| gd (decide (grM q2 v0 15 ≠ 0)) <| gd (rdI q2 (grM q2 v0 15) v2) <| if (giM q2 (grM q2 v0 15) (Int32.toNatClampNeg v2)) = 0 then (BM_collect_60 ((-1)) q2) else (BM_collect_60 w0 q2)
def fM_collect (v0 : Nat) (v1 : Int32) (M : Mem) : Option (Int32 × Mem) :=
  (fM_listAt v1 0 M).bind fun q1 => gd (obM q1.2 v0 11 34) <| gd (decide (grM q1.2 v0 15 ≠ 0)) <| gd (rdI q1.2 (grM q1.2 v0 15) q1.1) <| if (giM q1.2 (grM q1.2 v0 15) (Int32.toNatClampNeg q1.1)) ≤ 0 then ((fM_listAt v1 1 q1.2).bind fun q5 => gd (rdI q5.2 (grM q1.2 v0 15) q5.1) <| if (giM q5.2 (grM q1.2 v0 15) (Int32.toNatClampNeg q5.1)) ≤ 0 then (BM_collect_35 v0 v1 q1.1 2 q5.2) else (BM_collect_35 v0 v1 q1.1 1 q5.2)) else (some (0, q1.2))
def BM_takeFirst_11 (K : Nat → Int32 → Int32 → Int32 → Mem → Option ((Int32 × Mem))) (v0 : Nat) (v1 : Int32) (v2 : Int32) (v3 : Int32) (M : Mem) : Option ((Int32 × Mem)) :=
  gd (obM M v0 11 34) <| gd (decide (grM M v0 15 ≠ 0)) <| gd (rdI M (grM M v0 15) v1) <| if (giM M (grM M v0 15) (Int32.toNatClampNeg v1)) ≤ v3 then (gd (wrI M (grM M v0 15) v1) <| some (v2, siM M (grM M v0 15) (Int32.toNatClampNeg v1) ((giM M (grM M v0 15) (Int32.toNatClampNeg v1)) - 1))) else (gd (rdI M (grM M v0 15) ((v1 + v3) + 1)) <| gd (wrI M (grM M v0 15) (v1 + v3)) <| K v0 v1 v2 (v3 + 1) (siM M (grM M v0 15) (Int32.toNatClampNeg (v1 + v3)) (giM M (grM M v0 15) (Int32.toNatClampNeg ((v1 + v3) + 1)))))
def LM_takeFirst_11 : Nat → Nat → Int32 → Int32 → Int32 → Mem → Option ((Int32 × Mem))
  | 0 => fun _ _ _ _ _ => none
  | f + 1 => BM_takeFirst_11 (LM_takeFirst_11 f)
def fM_takeFirst (v0 : Nat) (v1 : Int32) (M : Mem) : Option (Int32 × Mem) :=
  gd (obM M v0 11 34) <| gd (decide (grM M v0 15 ≠ 0)) <| gd (rdI M (grM M v0 15) (v1 + 1)) <| (LM_takeFirst_11 1000000 v0 v1 (giM M (grM M v0 15) (Int32.toNatClampNeg (v1 + 1))) 1 M).bind (fun r5 => some r5)
def fM_set (v0 : Nat) (v1 : Int32) (v2 : Int32) (v3 : Int32) (M : Mem) : Option (Mem) :=
  gd (obM M v0 11 34) <| gd (decide (grM M v0 15 ≠ 0)) <| gd (wrI M (grM M v0 15) ((166 * v1) + v2)) <| some (siM M (grM M v0 15) (Int32.toNatClampNeg ((166 * v1) + v2)) v3)
def fM_takeBlock (v0 : Nat) (v1 : Int32) (v2 : Int32) (M : Mem) : Option (Int32 × Mem) :=
  (fM_listAt v1 0 M).bind fun q1 => gd (obM q1.2 v0 11 34) <| (fM_takeFirst v0 q1.1 q1.2).bind fun q2 => gd (obM q2.2 v0 11 34) <| (fM_set v0 v1 (126 + q2.1) 1 q2.2).bind fun q4 => gd (obM q4 v0 11 34) <| some ((100 * v1) + q2.1, siM q4 v0 17 v2)
def fM_addLast (v0 : Nat) (v1 : Int32) (v2 : Int32) (M : Mem) : Option (Mem) :=
  gd (obM M v0 11 34) <| gd (decide (grM M v0 15 ≠ 0)) <| gd (rdI M (grM M v0 15) v1) <| gd (wrI M (grM M v0 15) v1) <| gd (wrI M (grM M v0 15) (v1 + (giM (siM M (grM M v0 15) (Int32.toNatClampNeg v1) ((giM M (grM M v0 15) (Int32.toNatClampNeg v1)) + 1)) (grM M v0 15) (Int32.toNatClampNeg v1)))) <| some (siM (siM M (grM M v0 15) (Int32.toNatClampNeg v1) ((giM M (grM M v0 15) (Int32.toNatClampNeg v1)) + 1)) (grM M v0 15) (Int32.toNatClampNeg (v1 + (giM (siM M (grM M v0 15) (Int32.toNatClampNeg v1) ((giM M (grM M v0 15) (Int32.toNatClampNeg v1)) + 1)) (grM M v0 15) (Int32.toNatClampNeg v1)))) v2)
def fM_ownQueue (v0 : Nat) (v1 : Int32) (M : Mem) : Option (Int32 × Mem) :=
  gd (obM M v0 11 34) <| (fM_of v0 v1 1 M).bind fun q1 => gd (obM q1.2 v0 11 34) <| (fM_of v0 v1 2 q1.2).bind fun q3 => (fM_queueAt q1.1 q3.1 q3.2).bind fun q5 => some (q5.1, q5.2)
def fM_enqueue (v0 : Nat) (v1 : Int32) (M : Mem) : Option (Mem) :=
  gd (obM M v0 11 34) <| (fM_set v0 v1 0 1 M).bind fun q1 => gd (obM q1 v0 11 34) <| (fM_ownQueue v0 v1 q1).bind fun q3 => gd (obM q3.2 v0 11 34) <| (fM_addLast v0 q3.1 v1 q3.2).bind fun q5 => some q5
def BM_getOnce_207 (w0 : Nat) (w1 : Int32) (w2 : Int32) (M : Mem) : Option (Int32 × Mem) :=
  gd (obM M w0 11 34) <| (fM_takeBlock w0 w1 w2 M).bind fun q1 => some (q1.1, q1.2)
def BM_getOnce_173 (v0 : Nat) (v1 : Int32) (v5 : Int32) (v6 : Int32) (M : Mem) : Option (Int32 × Mem) :=
  gd (obM M v0 11 34) <| (fM_set v0 v5 1 v1 M).bind fun q1 => gd (obM q1 v0 11 34) <| (fM_enqueue v0 v5 q1).bind fun q3 => gd (obM q3 v0 11 34) <| (fM_collect v0 v5 q3).bind fun q5 => if v6 = 0 then (BM_getOnce_207 v0 v5 5 q5.2) else (BM_getOnce_207 v0 v5 4 q5.2)
def BM_getOnce_125 (K : Nat → Int32 → Int32 → Int32 → Int32 → Int32 → Mem → Option ((Mem))) (v0 : Nat) (v1 : Int32) (v2 : Int32) (v5 : Int32) (v6 : Int32) (v7 : Int32) (M : Mem) : Option ((Mem)) :=
  gd (obM M v0 11 34) <| gd (decide (grM M v0 8 ≠ 0)) <| gd (rdI M (grM M v0 8) 2) <| gd (decide (grM M v0 9 ≠ 0)) <| gd (rdI M (grM M v0 9) v2) <| gd (decide (¬ (giM M (grM M v0 9) (Int32.toNatClampNeg v2)) = 0)) <| if ((giM M (grM M v0 8) (Int32.toNatClampNeg 2)) / (giM M (grM M v0 9) (Int32.toNatClampNeg v2))) ≤ v7 then (some M) else ((fM_listAt v5 0 M).bind fun q7 => gd (obM q7.2 v0 11 34) <| (fM_addLast v0 q7.1 v7 q7.2).bind fun q8 => gd (obM q8 v0 11 34) <| (fM_set v0 v5 (126 + v7) 0 q8).bind fun q10 => K v0 v1 v2 v5 v6 (v7 + 1) q10)
def LM_getOnce_125 : Nat → Nat → Int32 → Int32 → Int32 → Int32 → Int32 → Mem → Option ((Mem))
  | 0 => fun _ _ _ _ _ _ _ => none
  | f + 1 => BM_getOnce_125 (LM_getOnce_125 f)
def BM_getOnce_99 (v0 : Nat) (v1 : Int32) (v2 : Int32) (v5 : Int32) (w0 : Int32) (M : Mem) : Option (Int32 × Mem) :=
  if w0 = 0 then (gd (obM M v0 11 34) <| (fM_otherPage v0 v2 0 M).bind fun q1 => gd (obM q1.2 v0 11 34) <| (fM_set v0 q1.1 2 v2 q1.2).bind fun q3 => (LM_getOnce_125 1000000 v0 v1 v2 q1.1 w0 0 q3).bind (fun y6 => BM_getOnce_173 v0 v1 q1.1 w0 y6)) else (BM_getOnce_173 v0 v1 v5 w0 M)
def BM_getOnce_56 (w0 : Nat) (w1 : Int32) (w2 : Int32) (M : Mem) : Option (Int32 × Mem) :=
  gd (obM M w0 11 34) <| (fM_takeBlock w0 w1 w2 M).bind fun q1 => some (q1.1, q1.2)
def BM_getOnce_9 (K : Nat → Int32 → Int32 → Int32 → Int32 → Mem → Option ((Int32 × Int32 × Int32 × Mem) ⊕ (Mem))) (v0 : Nat) (v1 : Int32) (v2 : Int32) (v3 : Int32) (v4 : Int32) (M : Mem) : Option ((Int32 × Int32 × Int32 × Mem) ⊕ (Mem)) :=
  gd (obM M v0 11 34) <| gd (decide (grM M v0 15 ≠ 0)) <| gd (rdI M (grM M v0 15) v3) <| if (giM M (grM M v0 15) (Int32.toNatClampNeg v3)) ≤ 0 then (some (.inr M)) else (gd (rdI M (grM M v0 15) (v3 + 1)) <| (fM_collect v0 (giM M (grM M v0 15) (Int32.toNatClampNeg (v3 + 1))) M).bind fun q5 => if q5.1 = ((-1)) then (gd (obM q5.2 v0 11 34) <| (fM_takeFirst v0 v3 q5.2).bind fun q6 => gd (obM q6.2 v0 11 34) <| (fM_set v0 (giM M (grM M v0 15) (Int32.toNatClampNeg (v3 + 1))) 0 2 q6.2).bind fun q8 => K v0 v1 v2 v3 0 q8) else (some (.inl (v4, giM M (grM M v0 15) (Int32.toNatClampNeg (v3 + 1)), q5.1, q5.2))))
def LM_getOnce_9 : Nat → Nat → Int32 → Int32 → Int32 → Int32 → Mem → Option ((Int32 × Int32 × Int32 × Mem) ⊕ (Mem))
  | 0 => fun _ _ _ _ _ _ => none
  | f + 1 => BM_getOnce_9 (LM_getOnce_9 f)
def fM_getOnce (v0 : Nat) (v1 : Int32) (v2 : Int32) (M : Mem) : Option (Int32 × Mem) :=
  (fM_queueAt v1 v2 M).bind fun q1 => (LM_getOnce_9 1000000 v0 v1 v2 q1.1 1 q1.2).bind (Sum.elim (fun y3 => if y3.1 = 0 then (BM_getOnce_56 v0 y3.2.1 3 y3.2.2.2) else (BM_getOnce_56 v0 y3.2.1 y3.2.2.1 y3.2.2.2)) (fun y4 => gd (obM y4 v0 11 34) <| (fM_otherPage v0 v2 1 y4).bind fun q5 => if q5.1 = ((-1)) then (BM_getOnce_99 v0 v1 v2 q5.1 0 q5.2) else (BM_getOnce_99 v0 v1 v2 q5.1 1 q5.2)))
def BM_takeOut_49 (K : Nat → Int32 → Int32 → Int32 → Int32 → Mem → Option ((Mem))) (v0 : Nat) (v1 : Int32) (v2 : Int32) (v3 : Int32) (v4 : Int32) (M : Mem) : Option ((Mem)) :=
  K v0 v1 v2 v3 (v4 + 1) M
def BM_takeOut_5 (K : Nat → Int32 → Int32 → Int32 → Int32 → Mem → Option ((Mem))) (v0 : Nat) (v1 : Int32) (v2 : Int32) (v3 : Int32) (v4 : Int32) (M : Mem) : Option ((Mem)) :=
  gd (obM M v0 11 34) <| gd (decide (grM M v0 15 ≠ 0)) <| gd (rdI M (grM M v0 15) v1) <| if (giM M (grM M v0 15) (Int32.toNatClampNeg v1)) < v4 then (gd (wrI M (grM M v0 15) v1) <| some (siM M (grM M v0 15) (Int32.toNatClampNeg v1) v3)) else (gd (rdI M (grM M v0 15) (v1 + v4)) <| if (giM M (grM M v0 15) (Int32.toNatClampNeg (v1 + v4))) = v2 then (BM_takeOut_49 K v0 v1 v2 v3 v4 M) else (gd (wrI M (grM M v0 15) (v1 + (v3 + 1))) <| BM_takeOut_49 K v0 v1 v2 (v3 + 1) v4 (siM M (grM M v0 15) (Int32.toNatClampNeg (v1 + (v3 + 1))) (giM M (grM M v0 15) (Int32.toNatClampNeg (v1 + v4))))))
def LM_takeOut_5 : Nat → Nat → Int32 → Int32 → Int32 → Int32 → Mem → Option ((Mem))
  | 0 => fun _ _ _ _ _ _ => none
  | f + 1 => BM_takeOut_5 (LM_takeOut_5 f)
def fM_takeOut (v0 : Nat) (v1 : Int32) (v2 : Int32) (M : Mem) : Option (Mem) :=
  (LM_takeOut_5 1000000 v0 v1 v2 0 1 M).bind (fun r2 => some r2)
def BM_leaveQueue_20 (M : Mem) : Option (Mem) :=
  some M
def fM_leaveQueue (v0 : Nat) (v1 : Int32) (M : Mem) : Option (Mem) :=
  gd (obM M v0 11 34) <| (fM_of v0 v1 0 M).bind fun q1 => if q1.1 = 1 then (gd (obM q1.2 v0 11 34) <| (fM_ownQueue v0 v1 q1.2).bind fun q3 => gd (obM q3.2 v0 11 34) <| (fM_takeOut v0 q3.1 v1 q3.2).bind fun q5 => BM_leaveQueue_20  q5) else (BM_leaveQueue_20  q1.2)
def BM_makeEmpty_14 (K : Nat → Int32 → Int32 → Mem → Option ((Mem))) (v0 : Nat) (v1 : Int32) (v2 : Int32) (M : Mem) : Option ((Mem)) :=
  if 3 ≤ v2 then (some M) else (gd (obM M v0 11 34) <| gd (decide (grM M v0 15 ≠ 0)) <| (fM_listAt v1 v2 M).bind fun q3 => gd (wrI q3.2 (grM M v0 15) q3.1) <| K v0 v1 (v2 + 1) (siM q3.2 (grM M v0 15) (Int32.toNatClampNeg q3.1) 0))
def LM_makeEmpty_14 : Nat → Nat → Int32 → Int32 → Mem → Option ((Mem))
  | 0 => fun _ _ _ _ => none
  | f + 1 => BM_makeEmpty_14 (LM_makeEmpty_14 f)
def fM_makeEmpty (v0 : Nat) (v1 : Int32) (M : Mem) : Option (Mem) :=
  gd (obM M v0 11 34) <| (fM_leaveQueue v0 v1 M).bind fun q1 => gd (obM q1 v0 11 34) <| (fM_set v0 v1 0 0 q1).bind fun q3 => (LM_makeEmpty_14 1000000 v0 v1 0 q3).bind (fun r6 => some r6)
def BM_goHome_52 (v3 : Int32) (M : Mem) : Option (Int32 × Mem) :=
  some (v3, M)
def fM_goHome (v0 : Nat) (v1 : Int32) (v2 : Int32) (M : Mem) : Option (Int32 × Mem) :=
  gd (obM M v0 11 34) <| gd (decide (grM M v0 15 ≠ 0)) <| (fM_boxAt v1 v2 M).bind fun q3 => gd (rdI q3.2 (grM M v0 15) q3.1) <| (fM_boxAt v1 v2 q3.2).bind fun q5 => (fM_listAt v2 2 q5.2).bind fun q6 => gd (obM q6.2 v0 11 34) <| (fM_moveAhead v0 q5.1 q6.1 q6.2).bind fun q7 => if (giM q3.2 (grM M v0 15) (Int32.toNatClampNeg q3.1)) ≤ 0 then (BM_goHome_52 (giM q3.2 (grM M v0 15) (Int32.toNatClampNeg q3.1)) q7) else (gd (obM q7 v0 11 34) <| (fM_of v0 v2 0 q7).bind fun q9 => if q9.1 = 3 then (gd (obM q9.2 v0 11 34) <| (fM_usedOf v0 v2 q9.2).bind fun q11 => if q11.1 = 0 then (gd (obM q11.2 v0 11 34) <| (fM_makeEmpty v0 v2 q11.2).bind fun q13 => BM_goHome_52 (giM q3.2 (grM M v0 15) (Int32.toNatClampNeg q3.1)) q13) else (BM_goHome_52 (giM q3.2 (grM M v0 15) (Int32.toNatClampNeg q3.1)) q11.2)) else (BM_goHome_52 (giM q3.2 (grM M v0 15) (Int32.toNatClampNeg q3.1)) q9.2))
def BM_sendNow_4 (K : Nat → Int32 → Int32 → Int32 → Mem → Option ((Int32 × Mem))) (v0 : Nat) (v1 : Int32) (v2 : Int32) (v3 : Int32) (M : Mem) : Option ((Int32 × Mem)) :=
  gd (obM M v0 11 34) <| gd (decide (grM M v0 8 ≠ 0)) <| gd (rdI M (grM M v0 8) 1) <| if (giM M (grM M v0 8) (Int32.toNatClampNeg 1)) ≤ v3 then (some (v2, M)) else ((fM_goHome v0 v1 v3 M).bind fun q4 => K v0 v1 (v2 + q4.1) (v3 + 1) q4.2)
def LM_sendNow_4 : Nat → Nat → Int32 → Int32 → Int32 → Mem → Option ((Int32 × Mem))
  | 0 => fun _ _ _ _ _ => none
  | f + 1 => BM_sendNow_4 (LM_sendNow_4 f)
def fM_sendNow (v0 : Nat) (v1 : Int32) (M : Mem) : Option (Int32 × Mem) :=
  (LM_sendNow_4 1000000 v0 v1 0 0 M).bind (fun r2 => some r2)
def BM_giveBack_37 (M : Mem) : Option (Mem) :=
  some M
def fM_giveBack (v0 : Nat) (v1 : Int32) (M : Mem) : Option (Mem) :=
  gd (obM M v0 11 34) <| (fM_of v0 v1 0 M).bind fun q1 => if q1.1 = 1 then (gd (obM q1.2 v0 11 34) <| (fM_usedOf v0 v1 q1.2).bind fun q3 => if q3.1 = 0 then (gd (obM q3.2 v0 11 34) <| gd (decide (grM q3.2 v0 15 ≠ 0)) <| (fM_ownQueue v0 v1 q3.2).bind fun q7 => gd (rdI q7.2 (grM q3.2 v0 15) q7.1) <| if (giM q7.2 (grM q3.2 v0 15) (Int32.toNatClampNeg q7.1)) ≤ 1 then (BM_giveBack_37  q7.2) else (gd (obM q7.2 v0 11 34) <| (fM_makeEmpty v0 v1 q7.2).bind fun q9 => BM_giveBack_37  q9)) else (BM_giveBack_37  q3.2)) else (BM_giveBack_37  q1.2)
def BM_tickNow_82 (K : Nat → Int32 → Int32 → Mem → Option ((Mem))) (v0 : Nat) (v1 : Int32) (v2 : Int32) (M : Mem) : Option ((Mem)) :=
  K v0 v1 (v2 + 1) M
def BM_tickNow_58 (K : Nat → Int32 → Int32 → Mem → Option ((Mem))) (v0 : Nat) (v1 : Int32) (v2 : Int32) (M : Mem) : Option ((Mem)) :=
  gd (obM M v0 11 34) <| gd (decide (grM M v0 8 ≠ 0)) <| gd (rdI M (grM M v0 8) 1) <| if (giM M (grM M v0 8) (Int32.toNatClampNeg 1)) ≤ v2 then (some M) else ((fM_isOf v0 v2 v1 M).bind fun q4 => if q4.1 = 0 then (BM_tickNow_82 K v0 v1 v2 q4.2) else (gd (obM q4.2 v0 11 34) <| (fM_giveBack v0 v2 q4.2).bind fun q5 => BM_tickNow_82 K v0 v1 v2 q5))
def LM_tickNow_58 : Nat → Nat → Int32 → Int32 → Mem → Option ((Mem))
  | 0 => fun _ _ _ _ => none
  | f + 1 => BM_tickNow_58 (LM_tickNow_58 f)
def BM_tickNow_50 (K : Nat → Int32 → Int32 → Mem → Option ((Mem))) (v0 : Nat) (v1 : Int32) (v2 : Int32) (M : Mem) : Option ((Mem)) :=
  K v0 v1 (v2 + 1) M
def BM_tickNow_8 (K : Nat → Int32 → Int32 → Mem → Option ((Mem))) (v0 : Nat) (v1 : Int32) (v2 : Int32) (M : Mem) : Option ((Mem)) :=
  gd (obM M v0 11 34) <| gd (decide (grM M v0 8 ≠ 0)) <| gd (rdI M (grM M v0 8) 1) <| if (giM M (grM M v0 8) (Int32.toNatClampNeg 1)) ≤ v2 then (some M) else ((fM_isOf v0 v2 v1 M).bind fun q4 => if q4.1 = 0 then (BM_tickNow_50 K v0 v1 v2 q4.2) else (gd (obM q4.2 v0 11 34) <| (fM_of v0 v2 0 q4.2).bind fun q5 => if q5.1 = 2 then (gd (obM q5.2 v0 11 34) <| (fM_listedOf v0 v2 q5.2).bind fun q7 => if q7.1 ≤ 0 then (BM_tickNow_50 K v0 v1 v2 q7.2) else (gd (obM q7.2 v0 11 34) <| (fM_enqueue v0 v2 q7.2).bind fun q9 => BM_tickNow_50 K v0 v1 v2 q9)) else (BM_tickNow_50 K v0 v1 v2 q5.2)))
def LM_tickNow_8 : Nat → Nat → Int32 → Int32 → Mem → Option ((Mem))
  | 0 => fun _ _ _ _ => none
  | f + 1 => BM_tickNow_8 (LM_tickNow_8 f)
def fM_tickNow (v0 : Nat) (v1 : Int32) (M : Mem) : Option (Mem) :=
  gd (obM M v0 11 34) <| (fM_sendNow v0 v1 M).bind fun q1 => (LM_tickNow_8 1000000 v0 v1 0 q1.2).bind (fun y4 => (LM_tickNow_58 1000000 v0 v1 0 y4).bind (fun r6 => some r6))
def BM_getNow_63 (v0 : Nat) (v3 : Int32) (v4 : Int32) (M : Mem) : Option (Int32 × Mem) :=
  gd (obM M v0 11 34) <| some (v3, siM M v0 17 v4)
def fM_getNow (v0 : Nat) (v1 : Int32) (v2 : Int32) (M : Mem) : Option (Int32 × Mem) :=
  gd (obM M v0 11 34) <| (fM_canGet v0 v1 v2 M).bind fun q1 => if q1.1 = 0 then (some ((-1), q1.2)) else (gd (obM q1.2 v0 11 34) <| (fM_getOnce v0 v1 v2 q1.2).bind fun q3 => gd (obM q3.2 v0 11 34) <| gd (decide (grM q3.2 v0 15 ≠ 0)) <| gd (rdI q3.2 (grM q3.2 v0 15) (3708 + v1)) <| gd (wrI q3.2 (grM q3.2 v0 15) (3708 + v1)) <| gd (decide (grM q3.2 v0 8 ≠ 0)) <| gd (rdI q3.2 (grM q3.2 v0 8) 4) <| gd (decide (¬ (giM (siM q3.2 (grM q3.2 v0 15) (Int32.toNatClampNeg (3708 + v1)) ((giM q3.2 (grM q3.2 v0 15) (Int32.toNatClampNeg (3708 + v1))) + 1)) (grM q3.2 v0 8) (Int32.toNatClampNeg 4)) = 0)) <| if ((giM (siM q3.2 (grM q3.2 v0 15) (Int32.toNatClampNeg (3708 + v1)) ((giM q3.2 (grM q3.2 v0 15) (Int32.toNatClampNeg (3708 + v1))) + 1)) (grM q3.2 v0 15) (Int32.toNatClampNeg (3708 + v1))) - (giM (siM q3.2 (grM q3.2 v0 15) (Int32.toNatClampNeg (3708 + v1)) ((giM q3.2 (grM q3.2 v0 15) (Int32.toNatClampNeg (3708 + v1))) + 1)) (grM q3.2 v0 15) (Int32.toNatClampNeg (3708 + v1))) / (giM (siM q3.2 (grM q3.2 v0 15) (Int32.toNatClampNeg (3708 + v1)) ((giM q3.2 (grM q3.2 v0 15) (Int32.toNatClampNeg (3708 + v1))) + 1)) (grM q3.2 v0 8) (Int32.toNatClampNeg 4)) * (giM (siM q3.2 (grM q3.2 v0 15) (Int32.toNatClampNeg (3708 + v1)) ((giM q3.2 (grM q3.2 v0 15) (Int32.toNatClampNeg (3708 + v1))) + 1)) (grM q3.2 v0 8) (Int32.toNatClampNeg 4))) = 0 then ((fM_tickNow v0 v1 (siM q3.2 (grM q3.2 v0 15) (Int32.toNatClampNeg (3708 + v1)) ((giM q3.2 (grM q3.2 v0 15) (Int32.toNatClampNeg (3708 + v1))) + 1))).bind fun q12 => BM_getNow_63 v0 q3.1 (giM q3.2 v0 17) q12) else (BM_getNow_63 v0 q3.1 (giM q3.2 v0 17) (siM q3.2 (grM q3.2 v0 15) (Int32.toNatClampNeg (3708 + v1)) ((giM q3.2 (grM q3.2 v0 15) (Int32.toNatClampNeg (3708 + v1))) + 1))))
def BM_note_62 (v0 : Nat) (v1 : Int32) (v2 : Int32) (M : Mem) : Option (Mem) :=
  gd (obM M v0 11 34) <| gd (decide (grM M v0 15 ≠ 0)) <| gd (rdI M (grM M v0 15) 3712) <| gd (wrI M (grM M v0 15) (3713 + (3 * (giM M (grM M v0 15) (Int32.toNatClampNeg 3712))))) <| gd (wrI M (grM M v0 15) ((3713 + (3 * (giM M (grM M v0 15) (Int32.toNatClampNeg 3712)))) + 1)) <| gd (wrI M (grM M v0 15) ((3713 + (3 * (giM M (grM M v0 15) (Int32.toNatClampNeg 3712)))) + 2)) <| gd (wrI M (grM M v0 15) 3712) <| some (siM (siM (siM (siM M (grM M v0 15) (Int32.toNatClampNeg (3713 + (3 * (giM M (grM M v0 15) (Int32.toNatClampNeg 3712))))) v1) (grM M v0 15) (Int32.toNatClampNeg ((3713 + (3 * (giM M (grM M v0 15) (Int32.toNatClampNeg 3712)))) + 1)) v2) (grM M v0 15) (Int32.toNatClampNeg ((3713 + (3 * (giM M (grM M v0 15) (Int32.toNatClampNeg 3712)))) + 2)) (giM (siM (siM M (grM M v0 15) (Int32.toNatClampNeg (3713 + (3 * (giM M (grM M v0 15) (Int32.toNatClampNeg 3712))))) v1) (grM M v0 15) (Int32.toNatClampNeg ((3713 + (3 * (giM M (grM M v0 15) (Int32.toNatClampNeg 3712)))) + 1)) v2) v0 17)) (grM M v0 15) (Int32.toNatClampNeg 3712) ((giM (siM (siM (siM M (grM M v0 15) (Int32.toNatClampNeg (3713 + (3 * (giM M (grM M v0 15) (Int32.toNatClampNeg 3712))))) v1) (grM M v0 15) (Int32.toNatClampNeg ((3713 + (3 * (giM M (grM M v0 15) (Int32.toNatClampNeg 3712)))) + 1)) v2) (grM M v0 15) (Int32.toNatClampNeg ((3713 + (3 * (giM M (grM M v0 15) (Int32.toNatClampNeg 3712)))) + 2)) (giM (siM (siM M (grM M v0 15) (Int32.toNatClampNeg (3713 + (3 * (giM M (grM M v0 15) (Int32.toNatClampNeg 3712))))) v1) (grM M v0 15) (Int32.toNatClampNeg ((3713 + (3 * (giM M (grM M v0 15) (Int32.toNatClampNeg 3712)))) + 1)) v2) v0 17)) (grM M v0 15) (Int32.toNatClampNeg 3712)) + 1))
def BM_note_15 (K : Nat → Int32 → Int32 → Int32 → Mem → Option ((Mem))) (v0 : Nat) (v1 : Int32) (v2 : Int32) (v3 : Int32) (M : Mem) : Option ((Mem)) :=
  if 180 ≤ v3 then (some M) else (gd (obM M v0 11 34) <| gd (decide (grM M v0 15 ≠ 0)) <| gd (rdI M (grM M v0 15) (3713 + v3)) <| gd (wrI M (grM M v0 15) ((3713 + v3) - 3)) <| K v0 v1 v2 (v3 + 1) (siM M (grM M v0 15) (Int32.toNatClampNeg ((3713 + v3) - 3)) (giM M (grM M v0 15) (Int32.toNatClampNeg (3713 + v3)))))
def LM_note_15 : Nat → Nat → Int32 → Int32 → Int32 → Mem → Option ((Mem))
  | 0 => fun _ _ _ _ _ => none
  | f + 1 => BM_note_15 (LM_note_15 f)
def fM_note (v0 : Nat) (v1 : Int32) (v2 : Int32) (M : Mem) : Option (Mem) :=
  gd (obM M v0 11 34) <| gd (decide (grM M v0 15 ≠ 0)) <| gd (rdI M (grM M v0 15) 3712) <| if (giM M (grM M v0 15) (Int32.toNatClampNeg 3712)) = 60 then ((LM_note_15 1000000 v0 v1 v2 3 M).bind (fun y5 => gd (obM y5 v0 11 34) <| gd (decide (grM y5 v0 15 ≠ 0)) <| gd (rdI y5 (grM y5 v0 15) 3712) <| gd (wrI y5 (grM y5 v0 15) 3712) <| BM_note_62 v0 v1 v2 (siM y5 (grM y5 v0 15) (Int32.toNatClampNeg 3712) ((giM y5 (grM y5 v0 15) (Int32.toNatClampNeg 3712)) - 1)))) else (BM_note_62 v0 v1 v2 M)
def BM_get_55 (v0 : Nat) (v1 : Int32) (v2 : Int32) (w0 : Nat) (w1 : Int32) (M : Mem) : Option (Int32 × Mem) :=
  gd (obM M w0 11 34) <| (fM_isRefused w0 w1 M).bind fun q1 => if q1.1 = 0 then (gd (obM q1.2 v0 11 34) <| (fM_keep v0 q1.2).bind fun q3 => gd (obM q3 v0 11 34) <| (fM_classFor v0 v2 q3).bind fun q5 => gd (obM q5.2 v0 11 34) <| (fM_getNow v0 v1 q5.1 q5.2).bind fun q7 => gd (obM q7.2 v0 11 34) <| (fM_note v0 q7.1 v1 q7.2).bind fun q9 => some (q7.1, q9)) else (some ((-1), q1.2))
def fM_get (v0 : Nat) (v1 : Int32) (v2 : Int32) (M : Mem) : Option (Int32 × Mem) :=
  gd (obM M v0 11 34) <| (fM_isThread v0 v1 M).bind fun q1 => if q1.1 = 0 then (BM_get_55 v0 v1 v2 v0 0 q1.2) else (gd (obM q1.2 v0 11 34) <| (fM_isAsked v0 v2 q1.2).bind fun q3 => if q3.1 = 0 then (BM_get_55 v0 v1 v2 v0 1 q3.2) else (gd (obM q3.2 v0 11 34) <| (fM_doesLive v0 v1 q3.2).bind fun q5 => if q5.1 = 0 then (BM_get_55 v0 v1 v2 v0 2 q5.2) else (gd (obM q5.2 v0 11 34) <| (fM_classFor v0 v2 q5.2).bind fun q7 => gd (obM q7.2 v0 11 34) <| (fM_canGet v0 v1 q7.1 q7.2).bind fun q9 => if q9.1 = 0 then (BM_get_55 v0 v1 v2 v0 3 q9.2) else (BM_get_55 v0 v1 v2 v0 ((-1)) q9.2))))
def BM_freeNow_73 (v0 : Nat) (v1 : Int32) (v3 : Int32) (v4 : Int32) (M : Mem) : Option (Int32 × Mem) :=
  (fM_boxAt v1 v3 M).bind fun q1 => gd (obM q1.2 v0 11 34) <| (fM_addFirst v0 q1.1 v4 q1.2).bind fun q2 => gd (obM q2 v0 11 34) <| gd (decide (grM q2 v0 15 ≠ 0)) <| (fM_boxAt v1 v3 q2).bind fun q6 => gd (rdI q6.2 (grM q2 v0 15) q6.1) <| gd (obM q6.2 v0 11 34) <| gd (decide (grM q6.2 v0 8 ≠ 0)) <| gd (rdI q6.2 (grM q6.2 v0 8) 3) <| if (giM q6.2 (grM q6.2 v0 8) (Int32.toNatClampNeg 3)) ≤ (giM q6.2 (grM q2 v0 15) (Int32.toNatClampNeg q6.1)) then ((fM_goHome v0 v1 v3 q6.2).bind fun q11 => some (2, q11.2)) else (some (1, q6.2))
def BM_freeNow_66 (v0 : Nat) (v3 : Int32) (M : Mem) : Option (Int32 × Mem) :=
  gd (obM M v0 11 34) <| (fM_giveBack v0 v3 M).bind fun q1 => some (0, q1)
def fM_freeNow (v0 : Nat) (v1 : Int32) (v2 : Int32) (M : Mem) : Option (Int32 × Mem) :=
  gd (obM M v0 11 34) <| (fM_set v0 (v2 / 100) (126 + (v2 - v2 / 100 * 100)) 0 M).bind fun q1 => gd (obM q1 v0 11 34) <| (fM_isOwned v0 (v2 / 100) q1).bind fun q3 => if q3.1 = 0 then (BM_freeNow_73 v0 v1 (v2 / 100) (v2 - v2 / 100 * 100) q3.2) else (gd (obM q3.2 v0 11 34) <| (fM_of v0 (v2 / 100) 1 q3.2).bind fun q5 => if q5.1 = v1 then ((fM_listAt (v2 / 100) 1 q5.2).bind fun q7 => gd (obM q7.2 v0 11 34) <| (fM_addFirst v0 q7.1 (v2 - v2 / 100 * 100) q7.2).bind fun q8 => gd (obM q8 v0 11 34) <| (fM_of v0 (v2 / 100) 0 q8).bind fun q10 => if q10.1 = 2 then (gd (obM q10.2 v0 11 34) <| (fM_enqueue v0 (v2 / 100) q10.2).bind fun q12 => BM_freeNow_66 v0 (v2 / 100) q12) else (BM_freeNow_66 v0 (v2 / 100) q10.2)) else (BM_freeNow_73 v0 v1 (v2 / 100) (v2 - v2 / 100 * 100) q5.2))
def BM_free_42 (v0 : Nat) (v1 : Int32) (v2 : Int32) (w0 : Nat) (w1 : Int32) (M : Mem) : Option (Int32 × Mem) :=
  gd (obM M w0 11 34) <| (fM_isRefused w0 w1 M).bind fun q1 => if q1.1 = 0 then (gd (obM q1.2 v0 11 34) <| (fM_keep v0 q1.2).bind fun q3 => gd (obM q3 v0 11 34) <| (fM_freeNow v0 v1 v2 q3).bind fun q5 => some (q5.1, q5.2)) else (some ((-1), q1.2))
def BM_free_37 (v0 : Nat) (v1 : Int32) (v2 : Int32) (w0 : Nat) (M : Mem) : Option (Int32 × Mem) :=
  BM_free_42 v0 v1 v2 w0 2 M
def BM_free_17 (v0 : Nat) (v1 : Int32) (v2 : Int32) (w0 : Nat) (M : Mem) : Option (Int32 × Mem) :=
  BM_free_42 v0 v1 v2 w0 0 M
def fM_free (v0 : Nat) (v1 : Int32) (v2 : Int32) (M : Mem) : Option (Int32 × Mem) :=
  gd (obM M v0 11 34) <| (fM_isThread v0 v1 M).bind fun q1 => if q1.1 = 0 then (BM_free_17 v0 v1 v2 v0 q1.2) else (gd (obM q1.2 v0 11 34) <| (fM_isBlock v0 v2 q1.2).bind fun q3 => if q3.1 = 0 then (BM_free_17 v0 v1 v2 v0 q3.2) else (gd (obM q3.2 v0 11 34) <| (fM_doesLive v0 v1 q3.2).bind fun q5 => if q5.1 = 0 then (BM_free_37 v0 v1 v2 v0 q5.2) else (gd (obM q5.2 v0 11 34) <| (fM_isHeld v0 v2 q5.2).bind fun q7 => if q7.1 = 0 then (BM_free_37 v0 v1 v2 v0 q7.2) else (BM_free_42 v0 v1 v2 v0 ((-1)) q7.2))))
def BM_tick_26 (v0 : Nat) (v1 : Int32) (w0 : Nat) (w1 : Int32) (M : Mem) : Option (Int32 × Mem) :=
  gd (obM M w0 11 34) <| (fM_isRefused w0 w1 M).bind fun q1 => if q1.1 = 0 then (gd (obM q1.2 v0 11 34) <| (fM_keep v0 q1.2).bind fun q3 => gd (obM q3 v0 11 34) <| (fM_tickNow v0 v1 q3).bind fun q5 => gd (obM q5 v0 11 34) <| (fM_ownedBy v0 v1 q5).bind fun q7 => some (q7.1, q7.2)) else (some ((-1), q1.2))
def fM_tick (v0 : Nat) (v1 : Int32) (M : Mem) : Option (Int32 × Mem) :=
  gd (obM M v0 11 34) <| (fM_isThread v0 v1 M).bind fun q1 => if q1.1 = 0 then (BM_tick_26 v0 v1 v0 0 q1.2) else (gd (obM q1.2 v0 11 34) <| (fM_doesLive v0 v1 q1.2).bind fun q3 => if q3.1 = 0 then (BM_tick_26 v0 v1 v0 2 q3.2) else (BM_tick_26 v0 v1 v0 ((-1)) q3.2))
def BM_send_26 (v0 : Nat) (v1 : Int32) (w0 : Nat) (w1 : Int32) (M : Mem) : Option (Int32 × Mem) :=
  gd (obM M w0 11 34) <| (fM_isRefused w0 w1 M).bind fun q1 => if q1.1 = 0 then (gd (obM q1.2 v0 11 34) <| (fM_keep v0 q1.2).bind fun q3 => gd (obM q3 v0 11 34) <| (fM_sendNow v0 v1 q3).bind fun q5 => some (q5.1, q5.2)) else (some ((-1), q1.2))
def fM_send (v0 : Nat) (v1 : Int32) (M : Mem) : Option (Int32 × Mem) :=
  gd (obM M v0 11 34) <| (fM_isThread v0 v1 M).bind fun q1 => if q1.1 = 0 then (BM_send_26 v0 v1 v0 0 q1.2) else (gd (obM q1.2 v0 11 34) <| (fM_doesLive v0 v1 q1.2).bind fun q3 => if q3.1 = 0 then (BM_send_26 v0 v1 v0 2 q3.2) else (BM_send_26 v0 v1 v0 ((-1)) q3.2))
def BM_turnNow_101 (K : Nat → Int32 → Int32 → Mem → Option ((Mem))) (v0 : Nat) (v1 : Int32) (v2 : Int32) (M : Mem) : Option ((Mem)) :=
  K v0 v1 (v2 + 1) M
def BM_turnNow_80 (K : Nat → Int32 → Int32 → Mem → Option ((Mem))) (v0 : Nat) (v1 : Int32) (v2 : Int32) (M : Mem) : Option ((Mem)) :=
  gd (obM M v0 11 34) <| (fM_isOf v0 v2 v1 M).bind fun q1 => if q1.1 = 0 then (BM_turnNow_101 K v0 v1 v2 q1.2) else (gd (obM q1.2 v0 11 34) <| (fM_leaveQueue v0 v2 q1.2).bind fun q3 => gd (obM q3 v0 11 34) <| (fM_set v0 v2 0 3 q3).bind fun q5 => BM_turnNow_101 K v0 v1 v2 q5)
def BM_turnNow_45 (K : Nat → Int32 → Int32 → Mem → Option ((Mem))) (v0 : Nat) (v1 : Int32) (v2 : Int32) (M : Mem) : Option ((Mem)) :=
  gd (obM M v0 11 34) <| gd (decide (grM M v0 8 ≠ 0)) <| gd (rdI M (grM M v0 8) 1) <| if (giM M (grM M v0 8) (Int32.toNatClampNeg 1)) ≤ v2 then (some M) else ((fM_isOf v0 v2 v1 M).bind fun q4 => if q4.1 = 0 then (BM_turnNow_80 K v0 v1 v2 q4.2) else (gd (obM q4.2 v0 11 34) <| (fM_usedOf v0 v2 q4.2).bind fun q5 => if q5.1 = 0 then (gd (obM q5.2 v0 11 34) <| (fM_makeEmpty v0 v2 q5.2).bind fun q7 => BM_turnNow_101 K v0 v1 v2 q7) else (BM_turnNow_80 K v0 v1 v2 q5.2)))
def LM_turnNow_45 : Nat → Nat → Int32 → Int32 → Mem → Option ((Mem))
  | 0 => fun _ _ _ _ => none
  | f + 1 => BM_turnNow_45 (LM_turnNow_45 f)
def fM_turnNow (v0 : Nat) (v1 : Int32) (M : Mem) : Option (Mem) :=
  gd (obM M v0 11 34) <| gd (decide (grM M v0 15 ≠ 0)) <| gd (rdI M (grM M v0 15) (3704 + v1)) <| gd (wrI M (grM M v0 15) (3704 + v1)) <| if (giM (siM M (grM M v0 15) (Int32.toNatClampNeg (3704 + v1)) (1 - (giM M (grM M v0 15) (Int32.toNatClampNeg (3704 + v1))))) (grM M v0 15) (Int32.toNatClampNeg (3704 + v1))) = 1 then (some (siM M (grM M v0 15) (Int32.toNatClampNeg (3704 + v1)) (1 - (giM M (grM M v0 15) (Int32.toNatClampNeg (3704 + v1)))))) else ((fM_sendNow v0 v1 (siM M (grM M v0 15) (Int32.toNatClampNeg (3704 + v1)) (1 - (giM M (grM M v0 15) (Int32.toNatClampNeg (3704 + v1)))))).bind fun q5 => (LM_turnNow_45 1000000 v0 v1 0 q5.2).bind (fun r7 => some r7))
def BM_turn_14 (v0 : Nat) (v1 : Int32) (w0 : Nat) (w1 : Int32) (M : Mem) : Option (Int32 × Mem) :=
  gd (obM M w0 11 34) <| (fM_isRefused w0 w1 M).bind fun q1 => if q1.1 = 0 then (gd (obM q1.2 v0 11 34) <| (fM_keep v0 q1.2).bind fun q3 => gd (obM q3 v0 11 34) <| (fM_turnNow v0 v1 q3).bind fun q5 => gd (obM q5 v0 11 34) <| gd (decide (grM q5 v0 15 ≠ 0)) <| gd (rdI q5 (grM q5 v0 15) (3704 + v1)) <| some (giM q5 (grM q5 v0 15) (Int32.toNatClampNeg (3704 + v1)), q5)) else (some ((-1), q1.2))
def fM_turn (v0 : Nat) (v1 : Int32) (M : Mem) : Option (Int32 × Mem) :=
  gd (obM M v0 11 34) <| (fM_isThread v0 v1 M).bind fun q1 => if q1.1 = 0 then (BM_turn_14 v0 v1 v0 0 q1.2) else (BM_turn_14 v0 v1 v0 ((-1)) q1.2)
def BM_isScript_26 (w0 : Int32) (M : Mem) : Option (Int32 × Mem) :=
  gd (decide (w0 = 0 ∨ w0 = 1)) <| some (w0, M)
def BM_isScript_25 (M : Mem) : Option (Int32 × Mem) :=
  BM_isScript_26 0 M
def fM_isScript (v0 : Nat) (v1 : Int32) (M : Mem) : Option (Int32 × Mem) :=
  gd (obM M v0 11 34) <| (fM_isArena v0 M).bind fun q1 => if q1.1 = 0 then (BM_isScript_25  q1.2) else (gd (obM q1.2 v0 11 34) <| (fM_in v1 0 ((giM q1.2 v0 13) - 1) q1.2).bind fun q4 => if q4.1 = 0 then (BM_isScript_25  q4.2) else (BM_isScript_26 1 q4.2))
def fM_stepOf (v0 : Nat) (v1 : Int32) (v2 : Int32) (v3 : Int32) (M : Mem) : Option (Int32 × Mem) :=
  gd (obM M v0 11 34) <| gd (decide (grM M v0 11 ≠ 0)) <| gd (rdI M (grM M v0 11) ((3 * ((24 * v1) + v2)) + v3)) <| some (giM M (grM M v0 11) (Int32.toNatClampNeg ((3 * ((24 * v1) + v2)) + v3)), M)
def BM_canStep_140 (w0 : Int32) (M : Mem) : Option (Int32 × Mem) :=
  gd (decide (w0 = 0 ∨ w0 = 1)) <| some (w0, M)
def BM_canStep_139 (M : Mem) : Option (Int32 × Mem) :=
  BM_canStep_140 0 M
def BM_canStep_99 (w0 : Int32) (M : Mem) : Option (Int32 × Mem) :=
  gd (decide (w0 = 0 ∨ w0 = 1)) <| some (w0, M)
def BM_canStep_98 (M : Mem) : Option (Int32 × Mem) :=
  BM_canStep_99 0 M
def fM_canStep (v0 : Nat) (v1 : Int32) (v2 : Int32) (v3 : Int32) (M : Mem) : Option (Int32 × Mem) :=
  gd (obM M v0 11 34) <| (fM_stepOf v0 v1 v2 1 M).bind fun q1 => gd (obM q1.2 v0 11 34) <| (fM_stepOf v0 v1 v2 2 q1.2).bind fun q3 => gd (obM q3.2 v0 11 34) <| (fM_stepOf v0 v1 v2 0 q3.2).bind fun q5 => if q5.1 = 0 then (gd (obM q5.2 v0 11 34) <| (fM_doesLive v0 q1.1 q5.2).bind fun q7 => if q7.1 = 0 then (BM_canStep_98  q7.2) else (gd (obM q7.2 v0 11 34) <| (fM_classFor v0 q3.1 q7.2).bind fun q9 => if q9.1 = ((-1)) then (BM_canStep_98  q9.2) else (gd (obM q9.2 v0 11 34) <| (fM_classFor v0 q3.1 q9.2).bind fun q11 => gd (obM q11.2 v0 11 34) <| (fM_canGet v0 q1.1 q11.1 q11.2).bind fun q13 => if q13.1 = 0 then (BM_canStep_98  q13.2) else (BM_canStep_99 1 q13.2)))) else if q5.1 = 1 then (gd (obM q5.2 v0 11 34) <| (fM_doesLive v0 q1.1 q5.2).bind fun q15 => if q15.1 = 0 then (BM_canStep_139  q15.2) else (gd (obM q15.2 v0 11 34) <| gd (decide (grM q15.2 v0 22 ≠ 0)) <| gd (rdI q15.2 (grM q15.2 v0 22) v3) <| if (giM q15.2 (grM q15.2 v0 22) (Int32.toNatClampNeg v3)) ≤ q3.1 then (BM_canStep_139  q15.2) else (gd (decide (grM q15.2 v0 21 ≠ 0)) <| gd (wrT 101 q15.2 (grM q15.2 v0 21) ((24 * v3) + q3.1)) <| if (giM q15.2 (grM q15.2 v0 21) (Int32.toNatClampNeg ((24 * v3) + q3.1))) = 0 then (BM_canStep_139  q15.2) else (BM_canStep_140 1 q15.2)))) else if q5.1 = 2 then (gd (obM q5.2 v0 11 34) <| (fM_isThread v0 q1.1 q5.2).bind fun q22 => gd (decide (q22.1 = 0 ∨ q22.1 = 1)) <| some (q22.1, q22.2)) else if q5.1 = 3 then (gd (obM q5.2 v0 11 34) <| (fM_doesLive v0 q1.1 q5.2).bind fun q25 => gd (decide (q25.1 = 0 ∨ q25.1 = 1)) <| some (q25.1, q25.2)) else if q5.1 = 4 then (gd (obM q5.2 v0 11 34) <| (fM_doesLive v0 q1.1 q5.2).bind fun q28 => gd (decide (q28.1 = 0 ∨ q28.1 = 1)) <| some (q28.1, q28.2)) else (some (1, q5.2))
def BM_stepGet_95 (M : Mem) : Option (Mem) :=
  some M
def BM_stepGet_59 (v0 : Nat) (v1 : Int32) (v3 : Int32) (v4 : Int32) (v5 : Int32) (w0 : Nat) (w1 : Int32) (w2 : Int32) (M : Mem) : Option (Mem) :=
  gd (wrI M w0 w1) <| gd (obM M v0 11 34) <| gd (decide (grM M v0 21 ≠ 0)) <| gd (wrT 101 M (grM M v0 21) v5) <| gd (decide (grM M v0 22 ≠ 0)) <| gd (rdI M (grM M v0 22) v3) <| gd (wrI M (grM M v0 22) v3) <| if v4 = 0 then (BM_stepGet_95  (siM (siM (siM M w0 (Int32.toNatClampNeg w1) w2) (grM M v0 21) (Int32.toNatClampNeg v5) 1) (grM M v0 22) (Int32.toNatClampNeg v3) ((giM (siM (siM M w0 (Int32.toNatClampNeg w1) w2) (grM M v0 21) (Int32.toNatClampNeg v5) 1) (grM M v0 22) (Int32.toNatClampNeg v3)) + 1))) else (gd (decide (grM M v0 18 ≠ 0)) <| gd (rdI M (grM M v0 18) v5) <| (fM_note v0 (giM (siM (siM (siM M w0 (Int32.toNatClampNeg w1) w2) (grM M v0 21) (Int32.toNatClampNeg v5) 1) (grM M v0 22) (Int32.toNatClampNeg v3) ((giM (siM (siM M w0 (Int32.toNatClampNeg w1) w2) (grM M v0 21) (Int32.toNatClampNeg v5) 1) (grM M v0 22) (Int32.toNatClampNeg v3)) + 1)) (grM M v0 18) (Int32.toNatClampNeg v5)) v1 (siM (siM (siM M w0 (Int32.toNatClampNeg w1) w2) (grM M v0 21) (Int32.toNatClampNeg v5) 1) (grM M v0 22) (Int32.toNatClampNeg v3) ((giM (siM (siM M w0 (Int32.toNatClampNeg w1) w2) (grM M v0 21) (Int32.toNatClampNeg v5) 1) (grM M v0 22) (Int32.toNatClampNeg v3)) + 1))).bind fun q10 => BM_stepGet_95  q10)
def fM_stepGet (v0 : Nat) (v1 : Int32) (v2 : Int32) (v3 : Int32) (v4 : Int32) (M : Mem) : Option (Mem) :=
  gd (obM M v0 11 34) <| gd (decide (grM M v0 22 ≠ 0)) <| gd (rdI M (grM M v0 22) v3) <| gd (decide (grM M v0 18 ≠ 0)) <| (fM_classFor v0 v2 M).bind fun q5 => gd (obM q5.2 v0 11 34) <| (fM_getNow v0 v1 q5.1 q5.2).bind fun q6 => gd (wrI q6.2 (grM M v0 18) ((24 * v3) + (giM M (grM M v0 22) (Int32.toNatClampNeg v3)))) <| gd (obM q6.2 v0 11 34) <| gd (decide (grM q6.2 v0 19 ≠ 0)) <| gd (wrI q6.2 (grM q6.2 v0 19) ((24 * v3) + (giM M (grM M v0 22) (Int32.toNatClampNeg v3)))) <| gd (decide (grM q6.2 v0 20 ≠ 0)) <| if (giM (siM (siM q6.2 (grM M v0 18) (Int32.toNatClampNeg ((24 * v3) + (giM M (grM M v0 22) (Int32.toNatClampNeg v3)))) q6.1) (grM q6.2 v0 19) (Int32.toNatClampNeg ((24 * v3) + (giM M (grM M v0 22) (Int32.toNatClampNeg v3)))) v1) v0 23) ≤ 0 then (BM_stepGet_59 v0 v1 v3 v4 ((24 * v3) + (giM M (grM M v0 22) (Int32.toNatClampNeg v3))) (grM q6.2 v0 20) ((24 * v3) + (giM M (grM M v0 22) (Int32.toNatClampNeg v3))) ((-1)) (siM (siM q6.2 (grM M v0 18) (Int32.toNatClampNeg ((24 * v3) + (giM M (grM M v0 22) (Int32.toNatClampNeg v3)))) q6.1) (grM q6.2 v0 19) (Int32.toNatClampNeg ((24 * v3) + (giM M (grM M v0 22) (Int32.toNatClampNeg v3)))) v1)) else (BM_stepGet_59 v0 v1 v3 v4 ((24 * v3) + (giM M (grM M v0 22) (Int32.toNatClampNeg v3))) (grM q6.2 v0 20) ((24 * v3) + (giM M (grM M v0 22) (Int32.toNatClampNeg v3))) (giM (siM (siM q6.2 (grM M v0 18) (Int32.toNatClampNeg ((24 * v3) + (giM M (grM M v0 22) (Int32.toNatClampNeg v3)))) q6.1) (grM q6.2 v0 19) (Int32.toNatClampNeg ((24 * v3) + (giM M (grM M v0 22) (Int32.toNatClampNeg v3)))) v1) v0 23) (siM (siM q6.2 (grM M v0 18) (Int32.toNatClampNeg ((24 * v3) + (giM M (grM M v0 22) (Int32.toNatClampNeg v3)))) q6.1) (grM q6.2 v0 19) (Int32.toNatClampNeg ((24 * v3) + (giM M (grM M v0 22) (Int32.toNatClampNeg v3)))) v1))
def BM_lowestLiving_2 (K : Nat → Int32 → Mem → Option ((Int32 × Mem))) (v0 : Nat) (v1 : Int32) (M : Mem) : Option ((Int32 × Mem)) :=
  gd (obM M v0 11 34) <| gd (decide (grM M v0 8 ≠ 0)) <| gd (rdI M (grM M v0 8) 0) <| if (giM M (grM M v0 8) (Int32.toNatClampNeg 0)) ≤ v1 then (some ((-1), M)) else (gd (decide (grM M v0 15 ≠ 0)) <| gd (rdI M (grM M v0 15) (3704 + v1)) <| if (giM M (grM M v0 15) (Int32.toNatClampNeg (3704 + v1))) = 1 then (some (v1, M)) else (K v0 (v1 + 1) M))
def LM_lowestLiving_2 : Nat → Nat → Int32 → Mem → Option ((Int32 × Mem))
  | 0 => fun _ _ _ => none
  | f + 1 => BM_lowestLiving_2 (LM_lowestLiving_2 f)
def fM_lowestLiving (v0 : Nat) (M : Mem) : Option (Int32 × Mem) :=
  (LM_lowestLiving_2 1000000 v0 0 M).bind (fun r2 => some r2)
def BM_endScope_93 (K : Nat → Int32 → Mem → Option ((Mem))) (v0 : Nat) (v1 : Int32) (M : Mem) : Option ((Mem)) :=
  K v0 (v1 + (-1)) M
def BM_endScope_86 (K : Nat → Int32 → Mem → Option ((Mem))) (v0 : Nat) (v1 : Int32) (M : Mem) : Option ((Mem)) :=
  gd (obM M v0 11 34) <| gd (decide (grM M v0 20 ≠ 0)) <| gd (wrI M (grM M v0 20) v1) <| BM_endScope_93 K v0 v1 (siM M (grM M v0 20) (Int32.toNatClampNeg v1) ((-1)))
def BM_endScope_52 (K : Nat → Int32 → Mem → Option ((Mem))) (v0 : Nat) (v1 : Int32) (w0 : Int32) (M : Mem) : Option ((Mem)) :=
  gd (obM M v0 11 34) <| gd (decide (grM M v0 21 ≠ 0)) <| gd (wrT 101 M (grM M v0 21) v1) <| if (giM M (grM M v0 21) (Int32.toNatClampNeg v1)) = 0 then (BM_endScope_86 K v0 v1 M) else (if w0 = ((-1)) then (BM_endScope_86 K v0 v1 M) else (gd (decide (grM M v0 18 ≠ 0)) <| gd (rdI M (grM M v0 18) v1) <| (fM_freeNow v0 w0 (giM M (grM M v0 18) (Int32.toNatClampNeg v1)) M).bind fun q6 => gd (obM q6.2 v0 11 34) <| gd (decide (grM q6.2 v0 21 ≠ 0)) <| gd (wrT 101 q6.2 (grM q6.2 v0 21) v1) <| BM_endScope_86 K v0 v1 (siM q6.2 (grM q6.2 v0 21) (Int32.toNatClampNeg v1) 0)))
def BM_endScope_9 (K : Nat → Int32 → Mem → Option ((Mem))) (v0 : Nat) (v1 : Int32) (M : Mem) : Option ((Mem)) :=
  if v1 < 0 then (gd (obM M v0 11 34) <| some (siM M v0 23 ((giM M v0 23) - 1))) else (gd (obM M v0 11 34) <| gd (decide (grM M v0 20 ≠ 0)) <| gd (rdI M (grM M v0 20) v1) <| if (giM M (grM M v0 20) (Int32.toNatClampNeg v1)) = (giM M v0 23) then (gd (decide (grM M v0 19 ≠ 0)) <| gd (rdI M (grM M v0 19) v1) <| (fM_doesLive v0 (giM M (grM M v0 19) (Int32.toNatClampNeg v1)) M).bind fun q7 => if q7.1 = 0 then (gd (obM q7.2 v0 11 34) <| (fM_lowestLiving v0 q7.2).bind fun q8 => BM_endScope_52 K v0 v1 q8.1 q8.2) else (gd (obM q7.2 v0 11 34) <| gd (decide (grM q7.2 v0 19 ≠ 0)) <| gd (rdI q7.2 (grM q7.2 v0 19) v1) <| BM_endScope_52 K v0 v1 (giM q7.2 (grM q7.2 v0 19) (Int32.toNatClampNeg v1)) q7.2)) else (BM_endScope_93 K v0 v1 M))
def LM_endScope_9 : Nat → Nat → Int32 → Mem → Option ((Mem))
  | 0 => fun _ _ _ => none
  | f + 1 => BM_endScope_9 (LM_endScope_9 f)
def fM_endScope (v0 : Nat) (M : Mem) : Option (Mem) :=
  gd (obM M v0 11 34) <| gd (decide (grM M v0 22 ≠ 0)) <| gd (rdI M (grM M v0 22) 0) <| (LM_endScope_9 1000000 v0 ((giM M (grM M v0 22) (Int32.toNatClampNeg 0)) - 1) M).bind (fun r5 => some r5)
def BM_doStep_158 (M : Mem) : Option (Mem) :=
  some M
def fM_doStep (v0 : Nat) (v1 : Int32) (v2 : Int32) (v3 : Int32) (v4 : Int32) (M : Mem) : Option (Mem) :=
  gd (obM M v0 11 34) <| (fM_stepOf v0 v1 v2 1 M).bind fun q1 => gd (obM q1.2 v0 11 34) <| (fM_stepOf v0 v1 v2 2 q1.2).bind fun q3 => gd (obM q3.2 v0 11 34) <| (fM_stepOf v0 v1 v2 0 q3.2).bind fun q5 => if q5.1 = 0 then (gd (obM q5.2 v0 11 34) <| (fM_stepGet v0 q1.1 q3.1 v3 v4 q5.2).bind fun q7 => BM_doStep_158  q7) else if q5.1 = 1 then (gd (obM q5.2 v0 11 34) <| gd (decide (grM q5.2 v0 18 ≠ 0)) <| gd (rdI q5.2 (grM q5.2 v0 18) ((24 * v3) + q3.1)) <| (fM_freeNow v0 q1.1 (giM q5.2 (grM q5.2 v0 18) (Int32.toNatClampNeg ((24 * v3) + q3.1))) q5.2).bind fun q12 => gd (obM q12.2 v0 11 34) <| gd (decide (grM q12.2 v0 21 ≠ 0)) <| gd (wrT 101 q12.2 (grM q12.2 v0 21) ((24 * v3) + q3.1)) <| BM_doStep_158  (siM q12.2 (grM q12.2 v0 21) (Int32.toNatClampNeg ((24 * v3) + q3.1)) 0)) else if q5.1 = 2 then (gd (obM q5.2 v0 11 34) <| (fM_turnNow v0 q1.1 q5.2).bind fun q16 => BM_doStep_158  q16) else if q5.1 = 3 then (gd (obM q5.2 v0 11 34) <| (fM_tickNow v0 q1.1 q5.2).bind fun q18 => BM_doStep_158  q18) else if q5.1 = 4 then (gd (obM q5.2 v0 11 34) <| (fM_sendNow v0 q1.1 q5.2).bind fun q20 => BM_doStep_158  q20.2) else if q5.1 = 5 then (gd (obM q5.2 v0 11 34) <| BM_doStep_158  (siM q5.2 v0 23 ((giM q5.2 v0 23) + 1))) else (gd (obM q5.2 v0 11 34) <| (fM_endScope v0 q5.2).bind fun q23 => BM_doStep_158  q23)
def BM_runScript_48 (K : Nat → Int32 → Mem → Option ((Int32 × Mem))) (v0 : Nat) (v3 : Int32) (M : Mem) : Option ((Int32 × Mem)) :=
  gd (obM M v0 11 34) <| if (giM M v0 23) ≤ 0 then (some (v3, M)) else ((fM_endScope v0 M).bind fun q2 => K v0 v3 q2)
def LM_runScript_48 : Nat → Nat → Int32 → Mem → Option ((Int32 × Mem))
  | 0 => fun _ _ _ => none
  | f + 1 => BM_runScript_48 (LM_runScript_48 f)
def BM_runScript_14 (K : Nat → Int32 → Int32 → Int32 → Mem → Option ((Int32 × Mem))) (v0 : Nat) (v1 : Int32) (v2 : Int32) (v3 : Int32) (M : Mem) : Option ((Int32 × Mem)) :=
  gd (obM M v0 11 34) <| gd (decide (grM M v0 12 ≠ 0)) <| gd (rdI M (grM M v0 12) v1) <| if (giM M (grM M v0 12) (Int32.toNatClampNeg v1)) ≤ v3 then (some (v3, M)) else ((fM_canStep v0 v1 v3 0 M).bind fun q4 => if q4.1 = 0 then (some (v3, q4.2)) else (gd (obM q4.2 v0 11 34) <| (fM_doStep v0 v1 v3 0 v2 q4.2).bind fun q5 => K v0 v1 v2 (v3 + 1) q5))
def LM_runScript_14 : Nat → Nat → Int32 → Int32 → Int32 → Mem → Option ((Int32 × Mem))
  | 0 => fun _ _ _ _ _ => none
  | f + 1 => BM_runScript_14 (LM_runScript_14 f)
def fM_runScript (v0 : Nat) (v1 : Int32) (v2 : Int32) (M : Mem) : Option (Int32 × Mem) :=
  gd (obM M v0 11 34) <| gd (decide (grM M v0 22 ≠ 0)) <| gd (wrI M (grM M v0 22) 0) <| (LM_runScript_14 1000000 v0 v1 v2 0 (siM (siM M (grM M v0 22) (Int32.toNatClampNeg 0) 0) v0 23 0)).bind (fun y5 => (LM_runScript_48 1000000 v0 y5.1 y5.2).bind (fun r7 => some r7))
def BM_perform_14 (v0 : Nat) (v1 : Int32) (w0 : Nat) (w1 : Int32) (M : Mem) : Option (Int32 × Mem) :=
  gd (obM M w0 11 34) <| (fM_isRefused w0 w1 M).bind fun q1 => if q1.1 = 0 then (gd (obM q1.2 v0 11 34) <| (fM_keep v0 q1.2).bind fun q3 => gd (obM q3 v0 11 34) <| (fM_runScript v0 v1 1 q3).bind fun q5 => some (q5.1, q5.2)) else (some ((-1), q1.2))
def fM_perform (v0 : Nat) (v1 : Int32) (M : Mem) : Option (Int32 × Mem) :=
  gd (obM M v0 11 34) <| (fM_isScript v0 v1 M).bind fun q1 => if q1.1 = 0 then (BM_perform_14 v0 v1 v0 0 q1.2) else (BM_perform_14 v0 v1 v0 ((-1)) q1.2)
def fM_draw (v0 : Nat) (v1 : Int32) (M : Mem) : Option (Int32 × Mem) :=
  gd (obM M v0 11 34) <| gd (decide (¬ (Int32.toInt64 v1) = 0)) <| some (Int64.toInt32 (((Int64.toUInt64 (glM (slM M v0 26 (((glM M v0 26) * 6364136223846793005) + 1442695040888963407)) v0 26) >>> (Int64.toUInt64 (Int32.toInt64 33) &&& Int64.toUInt64 63)).toInt64) - ((Int64.toUInt64 (glM (slM M v0 26 (((glM M v0 26) * 6364136223846793005) + 1442695040888963407)) v0 26) >>> (Int64.toUInt64 (Int32.toInt64 33) &&& Int64.toUInt64 63)).toInt64) / (Int32.toInt64 v1) * (Int32.toInt64 v1)), slM M v0 26 (((glM M v0 26) * 6364136223846793005) + 1442695040888963407))
def BM_heldMany_16 (K : Nat → Int32 → Int32 → Int32 → Mem → Option ((Int32 × Mem))) (v0 : Nat) (v1 : Int32) (v2 : Int32) (v3 : Int32) (M : Mem) : Option ((Int32 × Mem)) :=
  gd (obM M v0 11 34) <| (fM_blocksOf v0 v2 M).bind fun q1 => if q1.1 ≤ v3 then (some (v1, q1.2)) else (gd (obM q1.2 v0 11 34) <| (fM_of v0 v2 (126 + v3) q1.2).bind fun q3 => K v0 (v1 + q3.1) v2 (v3 + 1) q3.2)
def LM_heldMany_16 : Nat → Nat → Int32 → Int32 → Int32 → Mem → Option ((Int32 × Mem))
  | 0 => fun _ _ _ _ _ => none
  | f + 1 => BM_heldMany_16 (LM_heldMany_16 f)
def BM_heldMany_4 (K : Nat → Int32 → Int32 → Mem → Option ((Int32 × Mem))) (v0 : Nat) (v1 : Int32) (v2 : Int32) (M : Mem) : Option ((Int32 × Mem)) :=
  gd (obM M v0 11 34) <| gd (decide (grM M v0 8 ≠ 0)) <| gd (rdI M (grM M v0 8) 1) <| if (giM M (grM M v0 8) (Int32.toNatClampNeg 1)) ≤ v2 then (some (v1, M)) else ((LM_heldMany_16 1000000 v0 v1 v2 0 M).bind (fun y5 => K v0 y5.1 (v2 + 1) y5.2))
def LM_heldMany_4 : Nat → Nat → Int32 → Int32 → Mem → Option ((Int32 × Mem))
  | 0 => fun _ _ _ _ => none
  | f + 1 => BM_heldMany_4 (LM_heldMany_4 f)
def fM_heldMany (v0 : Nat) (M : Mem) : Option (Int32 × Mem) :=
  (LM_heldMany_4 1000000 v0 0 0 M).bind (fun r2 => some r2)
def BM_heldAt_57 (K : Nat → Int32 → Int32 → Int32 → Int32 → Mem → Option ((Int32 × Mem) ⊕ (Int32 × Mem))) (v0 : Nat) (v1 : Int32) (v2 : Int32) (v3 : Int32) (v4 : Int32) (M : Mem) : Option ((Int32 × Mem) ⊕ (Int32 × Mem)) :=
  K v0 v1 v2 v3 (v4 + 1) M
def BM_heldAt_17 (K : Nat → Int32 → Int32 → Int32 → Int32 → Mem → Option ((Int32 × Mem) ⊕ (Int32 × Mem))) (v0 : Nat) (v1 : Int32) (v2 : Int32) (v3 : Int32) (v4 : Int32) (M : Mem) : Option ((Int32 × Mem) ⊕ (Int32 × Mem)) :=
  gd (obM M v0 11 34) <| (fM_blocksOf v0 v3 M).bind fun q1 => if q1.1 ≤ v4 then (some (.inr (v2, q1.2))) else (gd (obM q1.2 v0 11 34) <| (fM_of v0 v3 (126 + v4) q1.2).bind fun q3 => if q3.1 = 1 then (if v2 = v1 then (some (.inl ((100 * v3) + v4, q3.2))) else (BM_heldAt_57 K v0 v1 (v2 + 1) v3 v4 q3.2)) else (BM_heldAt_57 K v0 v1 v2 v3 v4 q3.2))
def LM_heldAt_17 : Nat → Nat → Int32 → Int32 → Int32 → Int32 → Mem → Option ((Int32 × Mem) ⊕ (Int32 × Mem))
  | 0 => fun _ _ _ _ _ _ => none
  | f + 1 => BM_heldAt_17 (LM_heldAt_17 f)
def BM_heldAt_4 (K : Nat → Int32 → Int32 → Int32 → Mem → Option ((Int32 × Mem))) (v0 : Nat) (v1 : Int32) (v2 : Int32) (v3 : Int32) (M : Mem) : Option ((Int32 × Mem)) :=
  gd (obM M v0 11 34) <| gd (decide (grM M v0 8 ≠ 0)) <| gd (rdI M (grM M v0 8) 1) <| if (giM M (grM M v0 8) (Int32.toNatClampNeg 1)) ≤ v3 then (some ((-1), M)) else ((LM_heldAt_17 1000000 v0 v1 v2 v3 0 M).bind (Sum.elim (fun r5 => some r5) (fun y6 => K v0 v1 y6.1 (v3 + 1) y6.2)))
def LM_heldAt_4 : Nat → Nat → Int32 → Int32 → Int32 → Mem → Option ((Int32 × Mem))
  | 0 => fun _ _ _ _ _ => none
  | f + 1 => BM_heldAt_4 (LM_heldAt_4 f)
def fM_heldAt (v0 : Nat) (v1 : Int32) (M : Mem) : Option (Int32 × Mem) :=
  (LM_heldAt_4 1000000 v0 v1 0 0 M).bind (fun r2 => some r2)
def BM_drawOnce_110 (M : Mem) : Option (Mem) :=
  some M
def BM_drawOnce_72 (M : Mem) : Option (Mem) :=
  BM_drawOnce_110  M
def fM_drawOnce (v0 : Nat) (M : Mem) : Option (Mem) :=
  gd (obM M v0 11 34) <| gd (decide (grM M v0 8 ≠ 0)) <| gd (rdI M (grM M v0 8) 0) <| (fM_draw v0 (giM M (grM M v0 8) (Int32.toNatClampNeg 0)) M).bind fun q4 => gd (obM q4.2 v0 11 34) <| (fM_draw v0 3 q4.2).bind fun q5 => if 2 ≤ q5.1 then (gd (obM q5.2 v0 11 34) <| (fM_heldMany v0 q5.2).bind fun q7 => if q7.1 ≤ 0 then (BM_drawOnce_110  q7.2) else (gd (obM q7.2 v0 11 34) <| (fM_heldMany v0 q7.2).bind fun q9 => gd (obM q9.2 v0 11 34) <| (fM_draw v0 q9.1 q9.2).bind fun q11 => gd (obM q11.2 v0 11 34) <| (fM_heldAt v0 q11.1 q11.2).bind fun q13 => gd (obM q13.2 v0 11 34) <| (fM_doesLive v0 q4.1 q13.2).bind fun q15 => if q15.1 = 0 then (BM_drawOnce_110  q15.2) else (gd (obM q15.2 v0 11 34) <| (fM_freeNow v0 q4.1 q13.1 q15.2).bind fun q17 => BM_drawOnce_110  q17.2))) else (gd (obM q5.2 v0 11 34) <| gd (decide (grM q5.2 v0 8 ≠ 0)) <| gd (rdI q5.2 (grM q5.2 v0 8) 2) <| (fM_draw v0 (giM q5.2 (grM q5.2 v0 8) (Int32.toNatClampNeg 2)) q5.2).bind fun q22 => gd (obM q22.2 v0 11 34) <| (fM_classFor v0 (q22.1 + 1) q22.2).bind fun q23 => gd (obM q23.2 v0 11 34) <| (fM_doesLive v0 q4.1 q23.2).bind fun q25 => if q25.1 = 0 then (BM_drawOnce_72  q25.2) else (if q23.1 = ((-1)) then (BM_drawOnce_72  q25.2) else (gd (obM q25.2 v0 11 34) <| (fM_canGet v0 q4.1 q23.1 q25.2).bind fun q27 => if q27.1 = 0 then (BM_drawOnce_72  q27.2) else (gd (obM q27.2 v0 11 34) <| (fM_getNow v0 q4.1 q23.1 q27.2).bind fun q29 => gd (obM q29.2 v0 11 34) <| (fM_note v0 q29.1 q4.1 q29.2).bind fun q31 => BM_drawOnce_72  q31))))
def BM_years_27 (K : Nat → Int32 → Int32 → Mem → Option ((Int32 × Mem))) (v0 : Nat) (v1 : Int32) (v4 : Int32) (M : Mem) : Option ((Int32 × Mem)) :=
  if v1 ≤ v4 then (gd (obM M v0 11 34) <| (fM_heldMany v0 M).bind fun q1 => some (q1.1, q1.2)) else (gd (obM M v0 11 34) <| (fM_keep v0 M).bind fun q3 => gd (obM q3 v0 11 34) <| (fM_drawOnce v0 q3).bind fun q5 => K v0 v1 (v4 + 1) q5)
def LM_years_27 : Nat → Nat → Int32 → Int32 → Mem → Option ((Int32 × Mem))
  | 0 => fun _ _ _ _ => none
  | f + 1 => BM_years_27 (LM_years_27 f)
def BM_years_17 (M : Mem) : Option (Int32 × Mem) :=
  some ((-1), M)
def fM_years (v0 : Nat) (v1 : Int32) (v2 : Int64) (M : Mem) : Option (Int32 × Mem) :=
  gd (obM M v0 11 34) <| (fM_isArena v0 M).bind fun q1 => if q1.1 = 0 then (BM_years_17  q1.2) else ((fM_in v1 1 40 q1.2).bind fun q3 => if q3.1 = 0 then (BM_years_17  q3.2) else (gd (obM q3.2 v0 11 34) <| (LM_years_27 1000000 v0 v1 0 (slM q3.2 v0 26 v2)).bind (fun r6 => some r6)))
def BM_status_19 (w0 : Int32) (M : Mem) : Option (Int32 × Mem) :=
  some (w0, M)
def fM_status (v0 : Nat) (v1 : Int32) (M : Mem) : Option (Int32 × Mem) :=
  (fM_in v1 0 3 M).bind fun q1 => if q1.1 = 0 then (BM_status_19 ((-1)) q1.2) else (gd (obM q1.2 v0 11 34) <| gd (decide (grM q1.2 v0 16 ≠ 0)) <| gd (rdI q1.2 (grM q1.2 v0 16) v1) <| BM_status_19 (giM q1.2 (grM q1.2 v0 16) (Int32.toNatClampNeg v1)) q1.2)
def BM_undo_21 (K : Nat → Int32 → Mem → Option ((Int32 × Mem))) (v0 : Nat) (v1 : Int32) (M : Mem) : Option ((Int32 × Mem)) :=
  if 3893 ≤ v1 then (gd (obM M v0 11 34) <| some (giM M v0 25, M)) else (gd (obM M v0 11 34) <| gd (decide (grM M v0 15 ≠ 0)) <| gd (decide (grM M v0 24 ≠ 0)) <| gd (rdI M (grM M v0 24) ((3893 * (giM M v0 25)) + v1)) <| gd (wrI M (grM M v0 15) v1) <| K v0 (v1 + 1) (siM M (grM M v0 15) (Int32.toNatClampNeg v1) (giM M (grM M v0 24) (Int32.toNatClampNeg ((3893 * (giM M v0 25)) + v1)))))
def LM_undo_21 : Nat → Nat → Int32 → Mem → Option ((Int32 × Mem))
  | 0 => fun _ _ _ => none
  | f + 1 => BM_undo_21 (LM_undo_21 f)
def fM_undo (v0 : Nat) (M : Mem) : Option (Int32 × Mem) :=
  gd (obM M v0 11 34) <| if (giM M v0 25) = 0 then (some ((-1), M)) else ((LM_undo_21 1000000 v0 0 (siM M v0 25 ((giM M v0 25) - 1))).bind (fun r3 => some r3))
def BM_log_56 (w0 : Int32) (M : Mem) : Option (Int32 × Mem) :=
  some (w0, M)
def BM_log_55 (M : Mem) : Option (Int32 × Mem) :=
  BM_log_56 ((-1)) M
def fM_log (v0 : Nat) (v1 : Int32) (v2 : Int32) (M : Mem) : Option (Int32 × Mem) :=
  gd (obM M v0 11 34) <| gd (decide (grM M v0 15 ≠ 0)) <| gd (rdI M (grM M v0 15) 3712) <| (fM_in v1 0 ((giM M (grM M v0 15) (Int32.toNatClampNeg 3712)) - 1) M).bind fun q4 => if q4.1 = 0 then (BM_log_55  q4.2) else ((fM_in v2 0 2 q4.2).bind fun q5 => if q5.1 = 0 then (BM_log_55  q5.2) else (gd (obM q5.2 v0 11 34) <| gd (decide (grM q5.2 v0 15 ≠ 0)) <| gd (rdI q5.2 (grM q5.2 v0 15) 3712) <| gd (rdI q5.2 (grM q5.2 v0 15) ((3713 + (3 * (((giM q5.2 (grM q5.2 v0 15) (Int32.toNatClampNeg 3712)) - 1) - v1))) + v2)) <| BM_log_56 (giM q5.2 (grM q5.2 v0 15) (Int32.toNatClampNeg ((3713 + (3 * (((giM q5.2 (grM q5.2 v0 15) (Int32.toNatClampNeg 3712)) - 1) - v1))) + v2))) q5.2))
def BM_step_52 (w0 : Int32) (M : Mem) : Option (Int32 × Mem) :=
  some (w0, M)
def BM_step_49 (M : Mem) : Option (Int32 × Mem) :=
  BM_step_52 ((-1000000)) M
def fM_step (v0 : Nat) (v1 : Int32) (v2 : Int32) (v3 : Int32) (M : Mem) : Option (Int32 × Mem) :=
  gd (obM M v0 11 34) <| (fM_in v1 0 ((giM M v0 13) - 1) M).bind fun q2 => if q2.1 = 0 then (BM_step_49  q2.2) else (gd (obM q2.2 v0 11 34) <| gd (decide (grM q2.2 v0 12 ≠ 0)) <| gd (rdI q2.2 (grM q2.2 v0 12) v1) <| (fM_in v2 0 ((giM q2.2 (grM q2.2 v0 12) (Int32.toNatClampNeg v1)) - 1) q2.2).bind fun q6 => if q6.1 = 0 then (BM_step_49  q6.2) else ((fM_in v3 0 2 q6.2).bind fun q7 => if q7.1 = 0 then (BM_step_49  q7.2) else (gd (obM q7.2 v0 11 34) <| (fM_stepOf v0 v1 v2 v3 q7.2).bind fun q8 => BM_step_52 q8.1 q8.2)))
def BM_worst_62 (K : Nat → Int32 → Int32 → Mem → Option ((Int32 × Mem))) (v0 : Nat) (v2 : Int32) (w0 : Int32) (M : Mem) : Option ((Int32 × Mem)) :=
  K v0 w0 (v2 + 1) M
def BM_worst_4 (K : Nat → Int32 → Int32 → Mem → Option ((Int32 × Mem))) (v0 : Nat) (v1 : Int32) (v2 : Int32) (M : Mem) : Option ((Int32 × Mem)) :=
  gd (obM M v0 11 34) <| gd (decide (grM M v0 9 ≠ 0)) <| gd (rdI M (grM M v0 9) ((giM M v0 10) - 1)) <| if (giM M (grM M v0 9) (Int32.toNatClampNeg ((giM M v0 10) - 1))) < v2 then (some (v1, M)) else ((fM_classFor v0 v2 M).bind fun q4 => gd (rdI q4.2 (grM M v0 9) q4.1) <| gd (obM q4.2 v0 11 34) <| gd (decide (grM q4.2 v0 9 ≠ 0)) <| (fM_classFor v0 v1 q4.2).bind fun q8 => gd (rdI q8.2 (grM q4.2 v0 9) q8.1) <| if (((giM q4.2 (grM M v0 9) (Int32.toNatClampNeg q4.1)) - v2) * (giM q8.2 (grM q4.2 v0 9) (Int32.toNatClampNeg q8.1))) ≤ (((giM q8.2 (grM q4.2 v0 9) (Int32.toNatClampNeg q8.1)) - v1) * (giM q4.2 (grM M v0 9) (Int32.toNatClampNeg q4.1))) then (BM_worst_62 K v0 v2 v1 q8.2) else (BM_worst_62 K v0 v2 v2 q8.2))
def LM_worst_4 : Nat → Nat → Int32 → Int32 → Mem → Option ((Int32 × Mem))
  | 0 => fun _ _ _ _ => none
  | f + 1 => BM_worst_4 (LM_worst_4 f)
def fM_worst (v0 : Nat) (M : Mem) : Option (Int32 × Mem) :=
  (LM_worst_4 1000000 v0 1 2 M).bind (fun r2 => some r2)
def BM_waste_55 (w0 : Int32) (M : Mem) : Option (Int32 × Mem) :=
  some (w0, M)
def BM_waste_32 (v0 : Nat) (v1 : Int32) (M : Mem) : Option (Int32 × Mem) :=
  if v1 = 0 then (gd (obM M v0 11 34) <| (fM_worst v0 M).bind fun q5 => BM_waste_55 q5.1 q5.2) else (gd (obM M v0 11 34) <| gd (decide (grM M v0 9 ≠ 0)) <| (fM_classFor v0 v1 M).bind fun q3 => gd (rdI q3.2 (grM M v0 9) q3.1) <| BM_waste_55 ((giM q3.2 (grM M v0 9) (Int32.toNatClampNeg q3.1)) - v1) q3.2)
def BM_waste_30 (M : Mem) : Option (Int32 × Mem) :=
  some ((-1), M)
def fM_waste (v0 : Nat) (v1 : Int32) (M : Mem) : Option (Int32 × Mem) :=
  gd (obM M v0 11 34) <| (fM_isArena v0 M).bind fun q1 => if q1.1 = 0 then (BM_waste_30  q1.2) else ((fM_in v1 0 40 q1.2).bind fun q3 => if q3.1 = 0 then (BM_waste_30  q3.2) else (if v1 ≤ 0 then (BM_waste_32 v0 v1 q3.2) else (gd (obM q3.2 v0 11 34) <| (fM_classFor v0 v1 q3.2).bind fun q4 => if q4.1 = ((-1)) then (BM_waste_30  q4.2) else (BM_waste_32 v0 v1 q4.2))))
def BM_classes_131 (w0 : Int32) (M : Mem) : Option (Int32 × Mem) :=
  some (w0, M)
def BM_classes_108 (v2 : Int32) (v3 : Int32) (v4 : Int32) (M : Mem) : Option (Int32 × Mem) :=
  if v2 = ((-1)) then (BM_classes_131 v4 M) else (if (v4 - 1) = v2 then (BM_classes_131 v3 M) else (BM_classes_131 ((-1)) M))
def BM_classes_91 (K : Nat → Int32 → Int32 → Int32 → Int32 → Int32 → Int32 → Mem → Option ((Int32 × Mem))) (v0 : Nat) (v1 : Int32) (v2 : Int32) (v3 : Int32) (v4 : Int32) (v6 : Int32) (w0 : Int32) (M : Mem) : Option ((Int32 × Mem)) :=
  K v0 v1 v2 v3 v4 w0 (v6 + 1) M
def BM_classes_57 (K : Nat → Int32 → Int32 → Int32 → Int32 → Int32 → Int32 → Mem → Option ((Int32 × Mem))) (v0 : Nat) (v1 : Int32) (v2 : Int32) (v3 : Int32) (v4 : Int32) (v5 : Int32) (v6 : Int32) (M : Mem) : Option ((Int32 × Mem)) :=
  gd (obM M v0 11 34) <| gd (decide (grM M v0 8 ≠ 0)) <| gd (rdI M (grM M v0 8) 2) <| if (giM M (grM M v0 8) (Int32.toNatClampNeg 2)) < v6 then (some (v5, M)) else (if (v1 * v6) < (100 * ((v6 - v3) - 1)) then (BM_classes_91 K v0 v1 v2 v3 v4 v6 v5 M) else (BM_classes_91 K v0 v1 v2 v3 v4 v6 v6 M))
def LM_classes_57 : Nat → Nat → Int32 → Int32 → Int32 → Int32 → Int32 → Int32 → Mem → Option ((Int32 × Mem))
  | 0 => fun _ _ _ _ _ _ _ _ => none
  | f + 1 => BM_classes_57 (LM_classes_57 f)
def BM_classes_29 (K : Nat → Int32 → Int32 → Int32 → Int32 → Mem → Option ((Int32 × Int32 × Mem))) (v0 : Nat) (v1 : Int32) (v2 : Int32) (v3 : Int32) (v4 : Int32) (M : Mem) : Option ((Int32 × Int32 × Mem)) :=
  gd (obM M v0 11 34) <| gd (decide (grM M v0 8 ≠ 0)) <| gd (rdI M (grM M v0 8) 2) <| if (giM M (grM M v0 8) (Int32.toNatClampNeg 2)) ≤ v3 then (some (v3, v4, M)) else (if (v4 - 1) = v2 then (some (v3, v4, M)) else ((LM_classes_57 1000000 v0 v1 v2 v3 v4 (v3 + 1) (v3 + 1) M).bind (fun y5 => K v0 v1 v2 y5.1 (v4 + 1) y5.2)))
def LM_classes_29 : Nat → Nat → Int32 → Int32 → Int32 → Int32 → Mem → Option ((Int32 × Int32 × Mem))
  | 0 => fun _ _ _ _ _ _ => none
  | f + 1 => BM_classes_29 (LM_classes_29 f)
def BM_classes_22 (M : Mem) : Option (Int32 × Mem) :=
  some ((-1), M)
def fM_classes (v0 : Nat) (v1 : Int32) (v2 : Int32) (M : Mem) : Option (Int32 × Mem) :=
  gd (obM M v0 11 34) <| (fM_isArena v0 M).bind fun q1 => if q1.1 = 0 then (BM_classes_22  q1.2) else ((fM_in v1 0 90 q1.2).bind fun q3 => if q3.1 = 0 then (BM_classes_22  q3.2) else (if ((-1)) ≤ v2 then ((LM_classes_29 1000000 v0 v1 v2 1 1 q3.2).bind (fun y5 => BM_classes_108 v2 y5.1 y5.2.1 y5.2.2)) else (BM_classes_22  q3.2)))
def BM_putAside_2 (K : Nat → Int32 → Int32 → Mem → Option ((Mem))) (v0 : Nat) (v1 : Int32) (v2 : Int32) (M : Mem) : Option ((Mem)) :=
  if 3712 ≤ v2 then (some M) else (gd (obM M v0 11 34) <| gd (decide (grM M v0 27 ≠ 0)) <| gd (decide (grM M v0 15 ≠ 0)) <| gd (rdI M (grM M v0 15) v2) <| gd (wrI M (grM M v0 27) ((3712 * v1) + v2)) <| K v0 v1 (v2 + 1) (siM M (grM M v0 27) (Int32.toNatClampNeg ((3712 * v1) + v2)) (giM M (grM M v0 15) (Int32.toNatClampNeg v2))))
def LM_putAside_2 : Nat → Nat → Int32 → Int32 → Mem → Option ((Mem))
  | 0 => fun _ _ _ _ => none
  | f + 1 => BM_putAside_2 (LM_putAside_2 f)
def fM_putAside (v0 : Nat) (v1 : Int32) (M : Mem) : Option (Mem) :=
  (LM_putAside_2 1000000 v0 v1 0 M).bind (fun r2 => some r2)
def BM_takeBack_2 (K : Nat → Int32 → Int32 → Mem → Option ((Mem))) (v0 : Nat) (v1 : Int32) (v2 : Int32) (M : Mem) : Option ((Mem)) :=
  if 3712 ≤ v2 then (some M) else (gd (obM M v0 11 34) <| gd (decide (grM M v0 15 ≠ 0)) <| gd (decide (grM M v0 27 ≠ 0)) <| gd (rdI M (grM M v0 27) ((3712 * v1) + v2)) <| gd (wrI M (grM M v0 15) v2) <| K v0 v1 (v2 + 1) (siM M (grM M v0 15) (Int32.toNatClampNeg v2) (giM M (grM M v0 27) (Int32.toNatClampNeg ((3712 * v1) + v2)))))
def LM_takeBack_2 : Nat → Nat → Int32 → Int32 → Mem → Option ((Mem))
  | 0 => fun _ _ _ _ => none
  | f + 1 => BM_takeBack_2 (LM_takeBack_2 f)
def fM_takeBack (v0 : Nat) (v1 : Int32) (M : Mem) : Option (Mem) :=
  (LM_takeBack_2 1000000 v0 v1 0 M).bind (fun r2 => some r2)
def BM_would_60 (w0 : Int32) (M : Mem) : Option (Int32 × Mem) :=
  some (w0, M)
def BM_would_42 (v0 : Nat) (w0 : Int32) (M : Mem) : Option (Int32 × Mem) :=
  gd (obM M v0 11 34) <| (fM_takeBack v0 0 M).bind fun q1 => if w0 = 0 then (BM_would_60 ((-1)) q1) else (gd (obM q1 v0 11 34) <| BM_would_60 (giM q1 v0 17) q1)
def BM_would_16 (M : Mem) : Option (Int32 × Mem) :=
  some ((-1), M)
def fM_would (v0 : Nat) (v1 : Int32) (v2 : Int32) (M : Mem) : Option (Int32 × Mem) :=
  gd (obM M v0 11 34) <| (fM_doesLive v0 v1 M).bind fun q1 => if q1.1 = 0 then (BM_would_16  q1.2) else (gd (obM q1.2 v0 11 34) <| (fM_isAsked v0 v2 q1.2).bind fun q3 => if q3.1 = 0 then (BM_would_16  q3.2) else (gd (obM q3.2 v0 11 34) <| (fM_putAside v0 0 q3.2).bind fun q5 => gd (obM q5 v0 11 34) <| (fM_classFor v0 v2 q5).bind fun q7 => gd (obM q7.2 v0 11 34) <| (fM_getNow v0 v1 q7.1 q7.2).bind fun q9 => if q9.1 = ((-1)) then (BM_would_42 v0 0 q9.2) else (BM_would_42 v0 1 q9.2)))
def BM_placeIn_2 (K : Nat → Int32 → Int32 → Int32 → Mem → Option ((Int32 × Mem))) (v0 : Nat) (v1 : Int32) (v2 : Int32) (v3 : Int32) (M : Mem) : Option ((Int32 × Mem)) :=
  gd (obM M v0 11 34) <| gd (decide (grM M v0 15 ≠ 0)) <| gd (rdI M (grM M v0 15) v1) <| if (giM M (grM M v0 15) (Int32.toNatClampNeg v1)) < v3 then (some ((-1), M)) else (gd (rdI M (grM M v0 15) (v1 + v3)) <| if (giM M (grM M v0 15) (Int32.toNatClampNeg (v1 + v3))) = v2 then (some (v3 - 1, M)) else (K v0 v1 v2 (v3 + 1) M))
def LM_placeIn_2 : Nat → Nat → Int32 → Int32 → Int32 → Mem → Option ((Int32 × Mem))
  | 0 => fun _ _ _ _ _ => none
  | f + 1 => BM_placeIn_2 (LM_placeIn_2 f)
def fM_placeIn (v0 : Nat) (v1 : Int32) (v2 : Int32) (M : Mem) : Option (Int32 × Mem) :=
  (LM_placeIn_2 1000000 v0 v1 v2 1 M).bind (fun r2 => some r2)
def BM_where_186 (w0 : Int32) (M : Mem) : Option (Int32 × Mem) :=
  some (w0, M)
def BM_where_109 (K : Nat → Int32 → Int32 → Int32 → Int32 → Mem → Option ((Int32 × Mem) ⊕ (Int32 × Int32 × Mem))) (v0 : Nat) (v2 : Int32) (v3 : Int32) (v4 : Int32) (v5 : Int32) (M : Mem) : Option ((Int32 × Mem) ⊕ (Int32 × Int32 × Mem)) :=
  gd (obM M v0 11 34) <| gd (decide (grM M v0 8 ≠ 0)) <| gd (rdI M (grM M v0 8) 0) <| if (giM M (grM M v0 8) (Int32.toNatClampNeg 0)) ≤ v5 then (some (.inl ((-1), M))) else ((fM_boxAt v5 v3 M).bind fun q4 => gd (obM q4.2 v0 11 34) <| (fM_placeIn v0 q4.1 v4 q4.2).bind fun q5 => if q5.1 = ((-1)) then (K v0 v2 v3 v4 (v5 + 1) q5.2) else (some (.inr (v5, q5.1, q5.2))))
def LM_where_109 : Nat → Nat → Int32 → Int32 → Int32 → Int32 → Mem → Option ((Int32 × Mem) ⊕ (Int32 × Int32 × Mem))
  | 0 => fun _ _ _ _ _ _ => none
  | f + 1 => BM_where_109 (LM_where_109 f)
def BM_where_99 (w0 : Int32) (M : Mem) : Option (Int32 × Mem) :=
  some (w0, M)
def BM_where_51 (K : Nat → Int32 → Int32 → Int32 → Int32 → Mem → Option ((Int32 × Int32 × Mem) ⊕ (Mem))) (v0 : Nat) (v2 : Int32) (v3 : Int32) (v4 : Int32) (v5 : Int32) (M : Mem) : Option ((Int32 × Int32 × Mem) ⊕ (Mem)) :=
  if 3 ≤ v5 then (some (.inr M)) else ((fM_listAt v3 v5 M).bind fun q1 => gd (obM q1.2 v0 11 34) <| (fM_placeIn v0 q1.1 v4 q1.2).bind fun q2 => if q2.1 = ((-1)) then (K v0 v2 v3 v4 (v5 + 1) q2.2) else (some (.inl (v5, q2.1, q2.2))))
def LM_where_51 : Nat → Nat → Int32 → Int32 → Int32 → Int32 → Mem → Option ((Int32 × Int32 × Mem) ⊕ (Mem))
  | 0 => fun _ _ _ _ _ _ => none
  | f + 1 => BM_where_51 (LM_where_51 f)
def BM_where_47 (w0 : Int32) (M : Mem) : Option (Int32 × Mem) :=
  some (w0, M)
def BM_where_17 (M : Mem) : Option (Int32 × Mem) :=
  some ((-1), M)
def fM_where (v0 : Nat) (v1 : Int32) (v2 : Int32) (M : Mem) : Option (Int32 × Mem) :=
  gd (obM M v0 11 34) <| (fM_isBlock v0 v1 M).bind fun q1 => if q1.1 = 0 then (BM_where_17  q1.2) else ((fM_in v2 0 3 q1.2).bind fun q3 => if q3.1 = 0 then (BM_where_17  q3.2) else (gd (obM q3.2 v0 11 34) <| (fM_isHeld v0 v1 q3.2).bind fun q4 => if q4.1 = 0 then ((LM_where_51 1000000 v0 v2 (v1 / 100) (v1 - v1 / 100 * 100) 0 q4.2).bind (Sum.elim (fun y7 => if v2 = 0 then (BM_where_99 (y7.1 + 1) y7.2.2) else (if v2 = 1 then (BM_where_99 y7.2.1 y7.2.2) else (BM_where_99 ((-1)) y7.2.2))) (fun y8 => (LM_where_109 1000000 v0 v2 (v1 / 100) (v1 - v1 / 100 * 100) 0 y8).bind (Sum.elim (fun r10 => some r10) (fun y11 => if v2 = 0 then (BM_where_186 4 y11.2.2) else (if v2 = 1 then (BM_where_186 y11.2.1 y11.2.2) else (if v2 = 2 then (BM_where_186 y11.1 y11.2.2) else (gd (obM y11.2.2 v0 11 34) <| gd (decide (grM y11.2.2 v0 8 ≠ 0)) <| gd (rdI y11.2.2 (grM y11.2.2 v0 8) 3) <| gd (decide (grM y11.2.2 v0 15 ≠ 0)) <| (fM_boxAt y11.1 (v1 / 100) y11.2.2).bind fun q16 => gd (rdI q16.2 (grM y11.2.2 v0 15) q16.1) <| BM_where_186 ((giM y11.2.2 (grM y11.2.2 v0 8) (Int32.toNatClampNeg 3)) - (giM q16.2 (grM y11.2.2 v0 15) (Int32.toNatClampNeg q16.1))) q16.2)))))))) else (if v2 = 0 then (BM_where_47 0 q4.2) else (BM_where_47 ((-1)) q4.2))))
def BM_series_95 (w0 : Int32) (M : Mem) : Option (Int32 × Mem) :=
  some (w0, M)
def BM_series_78 (v0 : Nat) (v3 : Int32) (v4 : Int32) (v5 : Int32) (M : Mem) : Option (Int32 × Mem) :=
  gd (obM M v0 11 34) <| (fM_takeBack v0 0 M).bind fun q1 => if v3 = ((-1)) then (BM_series_95 v4 q1) else (BM_series_95 v5 q1)
def BM_series_48 (K : Nat → Int32 → Int32 → Int32 → Int32 → Int32 → Mem → Option ((Int32 × Int32 × Mem))) (v0 : Nat) (v1 : Int32) (v2 : Int32) (v3 : Int32) (v4 : Int32) (v5 : Int32) (M : Mem) : Option ((Int32 × Int32 × Mem)) :=
  if v5 = ((-1)) then (some (v4, v5, M)) else (if v4 = v3 then (some (v4, v5, M)) else (gd (obM M v0 11 34) <| (fM_classFor v0 v2 M).bind fun q1 => gd (obM q1.2 v0 11 34) <| (fM_getNow v0 v1 q1.1 q1.2).bind fun q3 => K v0 v1 v2 v3 (v4 + 1) q3.1 q3.2))
def LM_series_48 : Nat → Nat → Int32 → Int32 → Int32 → Int32 → Int32 → Mem → Option ((Int32 × Int32 × Mem))
  | 0 => fun _ _ _ _ _ _ _ => none
  | f + 1 => BM_series_48 (LM_series_48 f)
def BM_series_26 (M : Mem) : Option (Int32 × Mem) :=
  some ((-1), M)
def fM_series (v0 : Nat) (v1 : Int32) (v2 : Int32) (v3 : Int32) (M : Mem) : Option (Int32 × Mem) :=
  gd (obM M v0 11 34) <| (fM_doesLive v0 v1 M).bind fun q1 => if q1.1 = 0 then (BM_series_26  q1.2) else (gd (obM q1.2 v0 11 34) <| (fM_isAsked v0 v2 q1.2).bind fun q3 => if q3.1 = 0 then (BM_series_26  q3.2) else ((fM_in v3 ((-1)) 99 q3.2).bind fun q5 => if q5.1 = 0 then (BM_series_26  q5.2) else (gd (obM q5.2 v0 11 34) <| (fM_putAside v0 0 q5.2).bind fun q6 => gd (obM q6 v0 11 34) <| (fM_classFor v0 v2 q6).bind fun q8 => gd (obM q8.2 v0 11 34) <| (fM_getNow v0 v1 q8.1 q8.2).bind fun q10 => (LM_series_48 1000000 v0 v1 v2 v3 0 q10.1 q10.2).bind (fun y13 => BM_series_78 v0 v3 y13.1 y13.2.1 y13.2.2))))
def BM_pagesInUse_29 (K : Nat → Int32 → Int32 → Mem → Option ((Int32 × Mem))) (v0 : Nat) (v2 : Int32) (w0 : Int32) (w1 : Int32) (M : Mem) : Option ((Int32 × Mem)) :=
  K v0 (w0 + w1) (v2 + 1) M
def BM_pagesInUse_4 (K : Nat → Int32 → Int32 → Mem → Option ((Int32 × Mem))) (v0 : Nat) (v1 : Int32) (v2 : Int32) (M : Mem) : Option ((Int32 × Mem)) :=
  gd (obM M v0 11 34) <| gd (decide (grM M v0 8 ≠ 0)) <| gd (rdI M (grM M v0 8) 1) <| if (giM M (grM M v0 8) (Int32.toNatClampNeg 1)) ≤ v2 then (some (v1, M)) else ((fM_of v0 v2 0 M).bind fun q4 => if q4.1 = 0 then (BM_pagesInUse_29 K v0 v2 v1 0 q4.2) else (BM_pagesInUse_29 K v0 v2 v1 1 q4.2))
def LM_pagesInUse_4 : Nat → Nat → Int32 → Int32 → Mem → Option ((Int32 × Mem))
  | 0 => fun _ _ _ _ => none
  | f + 1 => BM_pagesInUse_4 (LM_pagesInUse_4 f)
def fM_pagesInUse (v0 : Nat) (M : Mem) : Option (Int32 × Mem) :=
  (LM_pagesInUse_4 1000000 v0 0 0 M).bind (fun r2 => some r2)
def BM_run_55 (v0 : Nat) (w0 : Int32) (M : Mem) : Option (Int32 × Mem) :=
  gd (obM M v0 11 34) <| (fM_takeBack v0 0 M).bind fun q1 => some (w0, q1)
def BM_run_17 (M : Mem) : Option (Int32 × Mem) :=
  some ((-1), M)
def fM_run (v0 : Nat) (v1 : Int32) (v2 : Int32) (M : Mem) : Option (Int32 × Mem) :=
  gd (obM M v0 11 34) <| (fM_isScript v0 v1 M).bind fun q1 => if q1.1 = 0 then (BM_run_17  q1.2) else ((fM_in v2 0 2 q1.2).bind fun q3 => if q3.1 = 0 then (BM_run_17  q3.2) else (gd (obM q3.2 v0 11 34) <| (fM_putAside v0 0 q3.2).bind fun q4 => gd (obM q4 v0 11 34) <| (fM_runScript v0 v1 0 q4).bind fun q6 => if v2 = 0 then (BM_run_55 v0 q6.1 q6.2) else (if v2 = 1 then (gd (obM q6.2 v0 11 34) <| (fM_pagesInUse v0 q6.2).bind fun q10 => BM_run_55 v0 q10.1 q10.2) else (gd (obM q6.2 v0 11 34) <| (fM_heldMany v0 q6.2).bind fun q8 => BM_run_55 v0 q8.1 q8.2))))
def BM_isFew_49 (K : Nat → Int32 → Int32 → Int32 → Mem → Option ((Int32 × Mem))) (v0 : Nat) (v1 : Int32) (v3 : Int32) (w0 : Int32) (M : Mem) : Option ((Int32 × Mem)) :=
  K v0 v1 w0 (v3 + 1) M
def BM_isFew_48 (K : Nat → Int32 → Int32 → Int32 → Mem → Option ((Int32 × Mem))) (v0 : Nat) (v1 : Int32) (v3 : Int32) (M : Mem) : Option ((Int32 × Mem)) :=
  BM_isFew_49 K v0 v1 v3 0 M
def BM_isFew_19 (K : Nat → Int32 → Int32 → Int32 → Mem → Option ((Int32 × Mem))) (v0 : Nat) (v1 : Int32) (v2 : Int32) (v3 : Int32) (M : Mem) : Option ((Int32 × Mem)) :=
  gd (obM M v0 11 34) <| gd (decide (grM M v0 12 ≠ 0)) <| gd (rdI M (grM M v0 12) v1) <| if (giM M (grM M v0 12) (Int32.toNatClampNeg v1)) ≤ v3 then (gd (decide (v2 = 0 ∨ v2 = 1)) <| some (v2, M)) else (if v2 = 0 then (BM_isFew_48 K v0 v1 v3 M) else ((fM_stepOf v0 v1 v3 0 M).bind fun q5 => if 5 ≤ q5.1 then (BM_isFew_48 K v0 v1 v3 q5.2) else (BM_isFew_49 K v0 v1 v3 1 q5.2)))
def LM_isFew_19 : Nat → Nat → Int32 → Int32 → Int32 → Mem → Option ((Int32 × Mem))
  | 0 => fun _ _ _ _ _ => none
  | f + 1 => BM_isFew_19 (LM_isFew_19 f)
def BM_isFew_16 (v0 : Nat) (v1 : Int32) (w0 : Int32) (M : Mem) : Option (Int32 × Mem) :=
  (LM_isFew_19 1000000 v0 v1 w0 0 M).bind (fun r2 => some r2)
def fM_isFew (v0 : Nat) (v1 : Int32) (M : Mem) : Option (Int32 × Mem) :=
  gd (obM M v0 11 34) <| gd (decide (grM M v0 12 ≠ 0)) <| gd (rdI M (grM M v0 12) v1) <| if 6 < (giM M (grM M v0 12) (Int32.toNatClampNeg v1)) then (BM_isFew_16 v0 v1 0 M) else (BM_isFew_16 v0 v1 1 M)
def BM_endWay_42 (w0 : Nat) (w1 : Int32) (M : Mem) : Option (Mem) :=
  gd (obM M w0 11 34) <| some (siM M w0 31 w1)
def fM_endWay (v0 : Nat) (M : Mem) : Option (Mem) :=
  gd (obM M v0 11 34) <| (fM_pagesInUse v0 M).bind fun q2 => (fK_max (giM M v0 30) q2.1 q2.2).bind fun q3 => gd (obM q3.2 v0 11 34) <| if (giM (siM q3.2 v0 30 q3.1) v0 31) = ((-1)) then ((fM_pagesInUse v0 (siM q3.2 v0 30 q3.1)).bind fun q7 => BM_endWay_42 v0 q7.1 q7.2) else ((fM_pagesInUse v0 (siM q3.2 v0 30 q3.1)).bind fun q5 => (fK_min (giM (siM q3.2 v0 30 q3.1) v0 31) q5.1 q5.2).bind fun q6 => BM_endWay_42 v0 q6.1 q6.2)
def BM_goWays_220 (self : Nat → Int32 → Int32 → Int32 → Int32 → Mem → Option (Mem)) (K : Nat → Int32 → Int32 → Int32 → Int32 → Int32 → Int32 → Mem → Option ((Mem))) (v0 : Nat) (v1 : Int32) (v2 : Int32) (v3 : Int32) (v4 : Int32) (v5 : Int32) (v6 : Int32) (M : Mem) : Option ((Mem)) :=
  K v0 v1 v2 v3 v4 v5 (v6 + 1) M
def BM_goWays_213 (self : Nat → Int32 → Int32 → Int32 → Int32 → Mem → Option (Mem)) (K : Nat → Int32 → Int32 → Int32 → Int32 → Int32 → Int32 → Mem → Option ((Mem))) (v0 : Nat) (v1 : Int32) (v2 : Int32) (v3 : Int32) (v4 : Int32) (v5 : Int32) (v6 : Int32) (M : Mem) : Option ((Mem)) :=
  BM_goWays_220 self K v0 v1 v2 v3 v4 v5 v6 M
def BM_goWays_158 (self : Nat → Int32 → Int32 → Int32 → Int32 → Mem → Option (Mem)) (K : Nat → Int32 → Int32 → Int32 → Int32 → Int32 → Int32 → Mem → Option ((Mem))) (v0 : Nat) (v1 : Int32) (v2 : Int32) (v3 : Int32) (v4 : Int32) (v5 : Int32) (v6 : Int32) (v7 : Int32) (v8 : Int32) (v9 : Int32) (w0 : Nat) (w1 : Int32) (w2 : Int32) (w3 : Int32) (w4 : Int32) (M : Mem) : Option ((Mem)) :=
  gd (obM M w0 11 34) <| (self w0 w1 w2 w3 w4 M).bind fun q1 => gd (obM q1 v0 11 34) <| (fM_takeBack v0 v5 q1).bind fun q3 => if v9 = 0 then (gd (obM q3 v0 11 34) <| gd (decide (grM q3 v0 22 ≠ 0)) <| gd (rdI q3 (grM q3 v0 22) v6) <| gd (wrI q3 (grM q3 v0 22) v6) <| BM_goWays_213 self K v0 v1 v2 v3 v4 v5 v6 (siM q3 (grM q3 v0 22) (Int32.toNatClampNeg v6) ((giM q3 (grM q3 v0 22) (Int32.toNatClampNeg v6)) - 1))) else (if v9 = 1 then (gd (obM q3 v0 11 34) <| gd (decide (grM q3 v0 21 ≠ 0)) <| (fM_stepOf v0 v7 v8 2 q3).bind fun q7 => gd (wrT 101 q7.2 (grM q3 v0 21) ((24 * v6) + q7.1)) <| BM_goWays_213 self K v0 v1 v2 v3 v4 v5 v6 (siM q7.2 (grM q3 v0 21) (Int32.toNatClampNeg ((24 * v6) + q7.1)) 1)) else (BM_goWays_213 self K v0 v1 v2 v3 v4 v5 v6 q3))
def BM_goWays_144 (self : Nat → Int32 → Int32 → Int32 → Int32 → Mem → Option (Mem)) (K : Nat → Int32 → Int32 → Int32 → Int32 → Int32 → Int32 → Mem → Option ((Mem))) (v0 : Nat) (v1 : Int32) (v2 : Int32) (v3 : Int32) (v4 : Int32) (v5 : Int32) (v6 : Int32) (v7 : Int32) (v8 : Int32) (v9 : Int32) (w0 : Nat) (w1 : Int32) (w2 : Int32) (w3 : Int32) (M : Mem) : Option ((Mem)) :=
  if v6 = 0 then (BM_goWays_158 self K v0 v1 v2 v3 v4 v5 v6 v7 v8 v9 w0 w1 w2 w3 v4 M) else (BM_goWays_158 self K v0 v1 v2 v3 v4 v5 v6 v7 v8 v9 w0 w1 w2 w3 (v4 + 1) M)
def BM_goWays_74 (self : Nat → Int32 → Int32 → Int32 → Int32 → Mem → Option (Mem)) (K : Nat → Int32 → Int32 → Int32 → Int32 → Int32 → Int32 → Mem → Option ((Mem))) (v0 : Nat) (v1 : Int32) (v2 : Int32) (v3 : Int32) (v4 : Int32) (v5 : Int32) (v6 : Int32) (v7 : Int32) (w0 : Int32) (M : Mem) : Option ((Mem)) :=
  gd (obM M v0 11 34) <| gd (decide (grM M v0 12 ≠ 0)) <| gd (rdI M (grM M v0 12) v7) <| if (giM M (grM M v0 12) (Int32.toNatClampNeg v7)) ≤ w0 then (BM_goWays_220 self K v0 v1 v2 v3 v4 v5 v6 M) else ((fM_canStep v0 v7 w0 v6 M).bind fun q4 => if q4.1 = 0 then (gd (obM q4.2 v0 11 34) <| (fM_endWay v0 q4.2).bind fun q5 => BM_goWays_220 self K v0 v1 v2 v3 v4 v5 v6 q5) else (gd (obM q4.2 v0 11 34) <| (fM_putAside v0 v5 q4.2).bind fun q7 => gd (obM q7 v0 11 34) <| (fM_stepOf v0 v7 w0 0 q7).bind fun q9 => gd (obM q9.2 v0 11 34) <| (fM_doStep v0 v7 w0 v6 0 q9.2).bind fun q11 => if v6 = 0 then (BM_goWays_144 self K v0 v1 v2 v3 v4 v5 v6 v7 w0 q9.1 v0 v1 v2 (v3 + 1) q11) else (BM_goWays_144 self K v0 v1 v2 v3 v4 v5 v6 v7 w0 q9.1 v0 v1 v2 v3 q11)))
def BM_goWays_61 (self : Nat → Int32 → Int32 → Int32 → Int32 → Mem → Option (Mem)) (K : Nat → Int32 → Int32 → Int32 → Int32 → Int32 → Int32 → Mem → Option ((Mem))) (v0 : Nat) (v1 : Int32) (v2 : Int32) (v3 : Int32) (v4 : Int32) (v5 : Int32) (v6 : Int32) (w0 : Int32) (M : Mem) : Option ((Mem)) :=
  if v6 = 0 then (BM_goWays_74 self K v0 v1 v2 v3 v4 v5 v6 w0 v3 M) else (BM_goWays_74 self K v0 v1 v2 v3 v4 v5 v6 w0 v4 M)
def BM_goWays_45 (self : Nat → Int32 → Int32 → Int32 → Int32 → Mem → Option (Mem)) (K : Nat → Int32 → Int32 → Int32 → Int32 → Int32 → Int32 → Mem → Option ((Mem))) (v0 : Nat) (v1 : Int32) (v2 : Int32) (v3 : Int32) (v4 : Int32) (v5 : Int32) (v6 : Int32) (M : Mem) : Option ((Mem)) :=
  if 2 ≤ v6 then (some M) else (if v6 = 0 then (BM_goWays_61 self K v0 v1 v2 v3 v4 v5 v6 v1 M) else (BM_goWays_61 self K v0 v1 v2 v3 v4 v5 v6 v2 M))
def LM_goWays_45 (self : Nat → Int32 → Int32 → Int32 → Int32 → Mem → Option (Mem)) : Nat → Nat → Int32 → Int32 → Int32 → Int32 → Int32 → Int32 → Mem → Option ((Mem))
  | 0 => fun _ _ _ _ _ _ _ _ => none
  | f + 1 => BM_goWays_45 self (LM_goWays_45 self f)
def BM_goWays_36 (self : Nat → Int32 → Int32 → Int32 → Int32 → Mem → Option (Mem)) (v0 : Nat) (v1 : Int32) (v2 : Int32) (v3 : Int32) (v4 : Int32) (M : Mem) : Option (Mem) :=
  (LM_goWays_45 self 1000000 v0 v1 v2 v3 v4 (v3 + v4) 0 M).bind (fun r2 => some r2)
def gM_goWays (self : Nat → Int32 → Int32 → Int32 → Int32 → Mem → Option (Mem)) (v0 : Nat) (v1 : Int32) (v2 : Int32) (v3 : Int32) (v4 : Int32) (M : Mem) : Option (Mem) :=
  gd (obM M v0 11 34) <| gd (decide (grM M v0 12 ≠ 0)) <| gd (rdI M (grM M v0 12) v1) <| if v3 = (giM M (grM M v0 12) (Int32.toNatClampNeg v1)) then (gd (rdI M (grM M v0 12) v2) <| if v4 = (giM M (grM M v0 12) (Int32.toNatClampNeg v2)) then ((fM_endWay v0 (siM M v0 29 ((giM M v0 29) + 1))).bind fun q5 => some q5) else (BM_goWays_36 self v0 v1 v2 v3 v4 M)) else (BM_goWays_36 self v0 v1 v2 v3 v4 M)
def fM_goWays : Nat → Nat → Int32 → Int32 → Int32 → Int32 → Mem → Option (Mem)
  | 0 => fun _ _ _ _ _ _ => none
  | f + 1 => gM_goWays (fM_goWays f)
def BM_ways_175 (w0 : Int32) (M : Mem) : Option (Int32 × Mem) :=
  some (w0, M)
def BM_ways_56 (K : Nat → Int32 → Int32 → Int32 → Int32 → Mem → Option ((Mem))) (v0 : Nat) (v1 : Int32) (v2 : Int32) (v3 : Int32) (v4 : Int32) (M : Mem) : Option ((Mem)) :=
  gd (obM M v0 11 34) <| gd (decide (grM M v0 12 ≠ 0)) <| gd (rdI M (grM M v0 12) v2) <| if (giM M (grM M v0 12) (Int32.toNatClampNeg v2)) < v4 then (some M) else (gd (rdI M (grM M v0 12) v1) <| gd (decide (¬ v4 = 0)) <| K v0 v1 v2 v3 (v4 + 1) (siM M v0 28 (((giM M v0 28) * ((giM M (grM M v0 12) (Int32.toNatClampNeg v1)) + v4)) / v4)))
def LM_ways_56 : Nat → Nat → Int32 → Int32 → Int32 → Int32 → Mem → Option ((Mem))
  | 0 => fun _ _ _ _ _ _ => none
  | f + 1 => BM_ways_56 (LM_ways_56 f)
def BM_ways_46 (M : Mem) : Option (Int32 × Mem) :=
  some ((-1), M)
def fM_ways (v0 : Nat) (v1 : Int32) (v2 : Int32) (v3 : Int32) (M : Mem) : Option (Int32 × Mem) :=
  gd (obM M v0 11 34) <| (fM_isScript v0 v1 M).bind fun q1 => if q1.1 = 0 then (BM_ways_46  q1.2) else (gd (obM q1.2 v0 11 34) <| (fM_isScript v0 v2 q1.2).bind fun q3 => if q3.1 = 0 then (BM_ways_46  q3.2) else (if v1 = v2 then (BM_ways_46  q3.2) else (gd (obM q3.2 v0 11 34) <| (fM_isFew v0 v1 q3.2).bind fun q5 => if q5.1 = 0 then (BM_ways_46  q5.2) else (gd (obM q5.2 v0 11 34) <| (fM_isFew v0 v2 q5.2).bind fun q7 => if q7.1 = 0 then (BM_ways_46  q7.2) else ((fM_in v3 0 3 q7.2).bind fun q9 => if q9.1 = 0 then (BM_ways_46  q9.2) else (gd (obM q9.2 v0 11 34) <| (LM_ways_56 1000000 v0 v1 v2 v3 1 (siM q9.2 v0 28 1)).bind (fun y12 => gd (obM y12 v0 11 34) <| gd (decide (grM y12 v0 22 ≠ 0)) <| gd (wrI y12 (grM y12 v0 22) 0) <| gd (wrI y12 (grM y12 v0 22) 1) <| (fM_goWays 20 v0 v1 v2 0 0 (siM (siM (siM (siM (siM (siM y12 v0 29 0) v0 30 0) v0 31 ((-1))) (grM y12 v0 22) (Int32.toNatClampNeg 0) 0) (grM y12 v0 22) (Int32.toNatClampNeg 1) 0) v0 23 0)).bind fun q17 => if v3 = 0 then (gd (obM q17 v0 11 34) <| BM_ways_175 (giM q17 v0 28) q17) else (if v3 = 1 then (gd (obM q17 v0 11 34) <| BM_ways_175 (giM q17 v0 29) q17) else (if v3 = 2 then (gd (obM q17 v0 11 34) <| BM_ways_175 (giM q17 v0 30) q17) else (gd (obM q17 v0 11 34) <| BM_ways_175 (giM q17 v0 31) q17))))))))))
def BM_usedBy_38 (K : Nat → Int32 → Int32 → Int32 → Mem → Option ((Int32 × Mem))) (v0 : Nat) (v1 : Int32) (v3 : Int32) (w0 : Int32) (w1 : Int32) (M : Mem) : Option ((Int32 × Mem)) :=
  K v0 v1 (w0 + w1) (v3 + 1) M
def BM_usedBy_29 (K : Nat → Int32 → Int32 → Int32 → Mem → Option ((Int32 × Mem))) (v0 : Nat) (v1 : Int32) (v3 : Int32) (w0 : Int32) (M : Mem) : Option ((Int32 × Mem)) :=
  gd (obM M v0 11 34) <| (fM_usedOf v0 v3 M).bind fun q1 => BM_usedBy_38 K v0 v1 v3 w0 q1.1 q1.2
def BM_usedBy_4 (K : Nat → Int32 → Int32 → Int32 → Mem → Option ((Int32 × Mem))) (v0 : Nat) (v1 : Int32) (v2 : Int32) (v3 : Int32) (M : Mem) : Option ((Int32 × Mem)) :=
  gd (obM M v0 11 34) <| gd (decide (grM M v0 8 ≠ 0)) <| gd (rdI M (grM M v0 8) 1) <| if (giM M (grM M v0 8) (Int32.toNatClampNeg 1)) ≤ v3 then (some (v2, M)) else (if v1 = ((-1)) then (BM_usedBy_29 K v0 v1 v3 v2 M) else ((fM_isOf v0 v3 v1 M).bind fun q4 => if q4.1 = 0 then (BM_usedBy_38 K v0 v1 v3 v2 0 q4.2) else (BM_usedBy_29 K v0 v1 v3 v2 q4.2)))
def LM_usedBy_4 : Nat → Nat → Int32 → Int32 → Int32 → Mem → Option ((Int32 × Mem))
  | 0 => fun _ _ _ _ _ => none
  | f + 1 => BM_usedBy_4 (LM_usedBy_4 f)
def fM_usedBy (v0 : Nat) (v1 : Int32) (M : Mem) : Option (Int32 × Mem) :=
  (LM_usedBy_4 1000000 v0 v1 0 0 M).bind (fun r2 => some r2)
def BM_shares_46 (w0 : Int32) (M : Mem) : Option (Int32 × Mem) :=
  some (w0, M)
def BM_shares_19 (M : Mem) : Option (Int32 × Mem) :=
  some ((-1), M)
def fM_shares (v0 : Nat) (v1 : Int32) (v2 : Int32) (M : Mem) : Option (Int32 × Mem) :=
  gd (obM M v0 11 34) <| (fM_isThread v0 v1 M).bind fun q1 => if q1.1 = 0 then (BM_shares_19  q1.2) else ((fM_in v2 0 999 q1.2).bind fun q3 => if q3.1 = 0 then (BM_shares_19  q3.2) else (gd (obM q3.2 v0 11 34) <| (fM_usedBy v0 ((-1)) q3.2).bind fun q4 => if q4.1 = 0 then (BM_shares_46 0 q4.2) else (gd (obM q4.2 v0 11 34) <| (fM_usedBy v0 v1 q4.2).bind fun q6 => gd (obM q6.2 v0 11 34) <| (fM_usedBy v0 ((-1)) q6.2).bind fun q8 => gd (decide (¬ q8.1 = 0)) <| BM_shares_46 ((v2 * q6.1) / q8.1) q8.2)))
def BM_cheapest_86 (K : Nat → Int32 → Int32 → Int32 → Mem → Option ((Int32 × Mem))) (v0 : Nat) (v2 : Int32) (v3 : Int32) (v4 : Int32) (M : Mem) : Option ((Int32 × Mem)) :=
  gd (obM M v0 11 34) <| (fM_blocksOf v0 v2 M).bind fun q1 => if q1.1 ≤ v4 then (some (v3, q1.2)) else (gd (obM q1.2 v0 11 34) <| (fM_of v0 v2 (126 + v4) q1.2).bind fun q3 => K v0 v2 (v3 + q3.1) (v4 + 1) q3.2)
def LM_cheapest_86 : Nat → Nat → Int32 → Int32 → Int32 → Mem → Option ((Int32 × Mem))
  | 0 => fun _ _ _ _ _ => none
  | f + 1 => BM_cheapest_86 (LM_cheapest_86 f)
def BM_cheapest_79 (v2 : Int32) (M : Mem) : Option (Int32 × Mem) :=
  some (v2, M)
def BM_cheapest_63 (K : Nat → Int32 → Int32 → Int32 → Mem → Option ((Int32 × Mem))) (v0 : Nat) (v1 : Int32) (v3 : Int32) (w0 : Int32) (M : Mem) : Option ((Int32 × Mem)) :=
  K v0 v1 w0 (v3 + 1) M
def BM_cheapest_62 (K : Nat → Int32 → Int32 → Int32 → Mem → Option ((Int32 × Mem))) (v0 : Nat) (v1 : Int32) (v2 : Int32) (v3 : Int32) (M : Mem) : Option ((Int32 × Mem)) :=
  BM_cheapest_63 K v0 v1 v3 v2 M
def BM_cheapest_58 (K : Nat → Int32 → Int32 → Int32 → Mem → Option ((Int32 × Mem))) (v0 : Nat) (v1 : Int32) (v3 : Int32) (M : Mem) : Option ((Int32 × Mem)) :=
  BM_cheapest_63 K v0 v1 v3 v3 M
def BM_cheapest_22 (K : Nat → Int32 → Int32 → Int32 → Mem → Option ((Int32 × Mem))) (v0 : Nat) (v1 : Int32) (v2 : Int32) (v3 : Int32) (M : Mem) : Option ((Int32 × Mem)) :=
  gd (obM M v0 11 34) <| gd (decide (grM M v0 8 ≠ 0)) <| gd (rdI M (grM M v0 8) 1) <| if (giM M (grM M v0 8) (Int32.toNatClampNeg 1)) ≤ v3 then (some (v2, M)) else ((fM_usedOf v0 v3 M).bind fun q4 => if q4.1 ≤ 0 then (BM_cheapest_62 K v0 v1 v2 v3 q4.2) else (if v2 = ((-1)) then (BM_cheapest_58 K v0 v1 v3 q4.2) else (gd (obM q4.2 v0 11 34) <| (fM_usedOf v0 v3 q4.2).bind fun q5 => gd (obM q5.2 v0 11 34) <| (fM_usedOf v0 v2 q5.2).bind fun q7 => if q7.1 ≤ q5.1 then (BM_cheapest_62 K v0 v1 v2 v3 q7.2) else (BM_cheapest_58 K v0 v1 v3 q7.2))))
def LM_cheapest_22 : Nat → Nat → Int32 → Int32 → Int32 → Mem → Option ((Int32 × Mem))
  | 0 => fun _ _ _ _ _ => none
  | f + 1 => BM_cheapest_22 (LM_cheapest_22 f)
def BM_cheapest_16 (M : Mem) : Option (Int32 × Mem) :=
  some ((-1), M)
def fM_cheapest (v0 : Nat) (v1 : Int32) (M : Mem) : Option (Int32 × Mem) :=
  gd (obM M v0 11 34) <| (fM_isArena v0 M).bind fun q1 => if q1.1 = 0 then (BM_cheapest_16  q1.2) else ((fM_in v1 0 1 q1.2).bind fun q3 => if q3.1 = 0 then (BM_cheapest_16  q3.2) else ((LM_cheapest_22 1000000 v0 v1 ((-1)) 0 q3.2).bind (fun y5 => if y5.1 = ((-1)) then (BM_cheapest_79 y5.1 y5.2) else (if v1 = 0 then (BM_cheapest_79 y5.1 y5.2) else ((LM_cheapest_86 1000000 v0 y5.1 0 0 y5.2).bind (fun r7 => some r7))))))
def BM_fullest_32 (K : Nat → Int32 → Int32 → Mem → Option ((Int32 × Mem))) (v0 : Nat) (v2 : Int32) (w0 : Int32) (M : Mem) : Option ((Int32 × Mem)) :=
  K v0 w0 (v2 + 1) M
def BM_fullest_4 (K : Nat → Int32 → Int32 → Mem → Option ((Int32 × Mem))) (v0 : Nat) (v1 : Int32) (v2 : Int32) (M : Mem) : Option ((Int32 × Mem)) :=
  gd (obM M v0 11 34) <| gd (decide (grM M v0 8 ≠ 0)) <| gd (rdI M (grM M v0 8) 1) <| if (giM M (grM M v0 8) (Int32.toNatClampNeg 1)) ≤ v2 then (some (v1, M)) else ((fM_usedOf v0 v2 M).bind fun q4 => gd (obM q4.2 v0 11 34) <| (fM_usedOf v0 v1 q4.2).bind fun q5 => if q4.1 ≤ q5.1 then (BM_fullest_32 K v0 v2 v1 q5.2) else (BM_fullest_32 K v0 v2 v2 q5.2))
def LM_fullest_4 : Nat → Nat → Int32 → Int32 → Mem → Option ((Int32 × Mem))
  | 0 => fun _ _ _ _ => none
  | f + 1 => BM_fullest_4 (LM_fullest_4 f)
def fM_fullest (v0 : Nat) (M : Mem) : Option (Int32 × Mem) :=
  (LM_fullest_4 1000000 v0 0 1 M).bind (fun r2 => some r2)
def BM_richest_32 (K : Nat → Int32 → Int32 → Mem → Option ((Int32 × Mem))) (v0 : Nat) (v2 : Int32) (w0 : Int32) (M : Mem) : Option ((Int32 × Mem)) :=
  K v0 w0 (v2 + 1) M
def BM_richest_4 (K : Nat → Int32 → Int32 → Mem → Option ((Int32 × Mem))) (v0 : Nat) (v1 : Int32) (v2 : Int32) (M : Mem) : Option ((Int32 × Mem)) :=
  gd (obM M v0 11 34) <| gd (decide (grM M v0 8 ≠ 0)) <| gd (rdI M (grM M v0 8) 0) <| if (giM M (grM M v0 8) (Int32.toNatClampNeg 0)) ≤ v2 then (some (v1, M)) else ((fM_ownedBy v0 v2 M).bind fun q4 => gd (obM q4.2 v0 11 34) <| (fM_ownedBy v0 v1 q4.2).bind fun q5 => if q4.1 ≤ q5.1 then (BM_richest_32 K v0 v2 v1 q5.2) else (BM_richest_32 K v0 v2 v2 q5.2))
def LM_richest_4 : Nat → Nat → Int32 → Int32 → Mem → Option ((Int32 × Mem))
  | 0 => fun _ _ _ _ => none
  | f + 1 => BM_richest_4 (LM_richest_4 f)
def fM_richest (v0 : Nat) (M : Mem) : Option (Int32 × Mem) :=
  (LM_richest_4 1000000 v0 0 1 M).bind (fun r2 => some r2)
def BM_living_4 (K : Nat → Int32 → Int32 → Mem → Option ((Int32 × Mem))) (v0 : Nat) (v1 : Int32) (v2 : Int32) (M : Mem) : Option ((Int32 × Mem)) :=
  gd (obM M v0 11 34) <| gd (decide (grM M v0 8 ≠ 0)) <| gd (rdI M (grM M v0 8) 0) <| if (giM M (grM M v0 8) (Int32.toNatClampNeg 0)) ≤ v2 then (some (v1, M)) else (gd (decide (grM M v0 15 ≠ 0)) <| gd (rdI M (grM M v0 15) (3704 + v2)) <| K v0 (v1 ||| ((giM M (grM M v0 15) (Int32.toNatClampNeg (3704 + v2))) <<< (v2 &&& 31))) (v2 + 1) M)
def LM_living_4 : Nat → Nat → Int32 → Int32 → Mem → Option ((Int32 × Mem))
  | 0 => fun _ _ _ _ => none
  | f + 1 => BM_living_4 (LM_living_4 f)
def fM_living (v0 : Nat) (M : Mem) : Option (Int32 × Mem) :=
  (LM_living_4 1000000 v0 0 0 M).bind (fun r2 => some r2)
def BM_pagesThat_32 (K : Nat → Int32 → Int32 → Int32 → Mem → Option ((Int32 × Mem))) (v0 : Nat) (v1 : Int32) (v3 : Int32) (w0 : Int32) (w1 : Int32) (M : Mem) : Option ((Int32 × Mem)) :=
  K v0 v1 (w0 ||| w1) (v3 + 1) M
def BM_pagesThat_4 (K : Nat → Int32 → Int32 → Int32 → Mem → Option ((Int32 × Mem))) (v0 : Nat) (v1 : Int32) (v2 : Int32) (v3 : Int32) (M : Mem) : Option ((Int32 × Mem)) :=
  gd (obM M v0 11 34) <| gd (decide (grM M v0 8 ≠ 0)) <| gd (rdI M (grM M v0 8) 1) <| if (giM M (grM M v0 8) (Int32.toNatClampNeg 1)) ≤ v3 then (some (v2, M)) else ((fM_of v0 v3 0 M).bind fun q4 => if q4.1 = v1 then (BM_pagesThat_32 K v0 v1 v3 v2 (1 <<< (v3 &&& 31)) q4.2) else (BM_pagesThat_32 K v0 v1 v3 v2 0 q4.2))
def LM_pagesThat_4 : Nat → Nat → Int32 → Int32 → Int32 → Mem → Option ((Int32 × Mem))
  | 0 => fun _ _ _ _ _ => none
  | f + 1 => BM_pagesThat_4 (LM_pagesThat_4 f)
def fM_pagesThat (v0 : Nat) (v1 : Int32) (M : Mem) : Option (Int32 × Mem) :=
  (LM_pagesThat_4 1000000 v0 v1 0 0 M).bind (fun r2 => some r2)
def BM_outMany_4 (K : Nat → Int32 → Int32 → Mem → Option ((Int32 × Mem))) (v0 : Nat) (v1 : Int32) (v2 : Int32) (M : Mem) : Option ((Int32 × Mem)) :=
  gd (obM M v0 11 34) <| gd (decide (grM M v0 8 ≠ 0)) <| gd (rdI M (grM M v0 8) 0) <| if (giM M (grM M v0 8) (Int32.toNatClampNeg 0)) ≤ v2 then (some (v1, M)) else ((fM_boxedBy v0 v2 M).bind fun q4 => K v0 (v1 + q4.1) (v2 + 1) q4.2)
def LM_outMany_4 : Nat → Nat → Int32 → Int32 → Mem → Option ((Int32 × Mem))
  | 0 => fun _ _ _ _ => none
  | f + 1 => BM_outMany_4 (LM_outMany_4 f)
def fM_outMany (v0 : Nat) (M : Mem) : Option (Int32 × Mem) :=
  (LM_outMany_4 1000000 v0 0 0 M).bind (fun r2 => some r2)
def BM_idle_52 (K : Nat → Int32 → Int32 → Mem → Option ((Int32 × Mem))) (v0 : Nat) (v2 : Int32) (w0 : Int32) (w1 : Int32) (M : Mem) : Option ((Int32 × Mem)) :=
  K v0 (w0 + w1) (v2 + 1) M
def BM_idle_4 (K : Nat → Int32 → Int32 → Mem → Option ((Int32 × Mem))) (v0 : Nat) (v1 : Int32) (v2 : Int32) (M : Mem) : Option ((Int32 × Mem)) :=
  gd (obM M v0 11 34) <| gd (decide (grM M v0 8 ≠ 0)) <| gd (rdI M (grM M v0 8) 1) <| if (giM M (grM M v0 8) (Int32.toNatClampNeg 1)) ≤ v2 then (some (v1, M)) else ((fM_of v0 v2 0 M).bind fun q4 => if q4.1 = 0 then (BM_idle_52 K v0 v2 v1 0 q4.2) else (gd (obM q4.2 v0 11 34) <| gd (decide (grM q4.2 v0 8 ≠ 0)) <| gd (rdI q4.2 (grM q4.2 v0 8) 2) <| (fM_usedOf v0 v2 q4.2).bind fun q8 => gd (obM q8.2 v0 11 34) <| gd (decide (grM q8.2 v0 9 ≠ 0)) <| (fM_of v0 v2 2 q8.2).bind fun q11 => gd (rdI q11.2 (grM q8.2 v0 9) q11.1) <| BM_idle_52 K v0 v2 v1 ((giM q4.2 (grM q4.2 v0 8) (Int32.toNatClampNeg 2)) - (q8.1 * (giM q11.2 (grM q8.2 v0 9) (Int32.toNatClampNeg q11.1)))) q11.2))
def LM_idle_4 : Nat → Nat → Int32 → Int32 → Mem → Option ((Int32 × Mem))
  | 0 => fun _ _ _ _ => none
  | f + 1 => BM_idle_4 (LM_idle_4 f)
def fM_idle (v0 : Nat) (M : Mem) : Option (Int32 × Mem) :=
  (LM_idle_4 1000000 v0 0 0 M).bind (fun r2 => some r2)
def BM_foreign_4 (K : Nat → Int32 → Int32 → Mem → Option ((Int32 × Mem))) (v0 : Nat) (v1 : Int32) (v2 : Int32) (M : Mem) : Option ((Int32 × Mem)) :=
  gd (obM M v0 11 34) <| gd (decide (grM M v0 8 ≠ 0)) <| gd (rdI M (grM M v0 8) 1) <| if (giM M (grM M v0 8) (Int32.toNatClampNeg 1)) ≤ v2 then (some (v1, M)) else (gd (decide (grM M v0 15 ≠ 0)) <| (fM_listAt v2 2 M).bind fun q5 => gd (rdI q5.2 (grM M v0 15) q5.1) <| K v0 (v1 + (giM q5.2 (grM M v0 15) (Int32.toNatClampNeg q5.1))) (v2 + 1) q5.2)
def LM_foreign_4 : Nat → Nat → Int32 → Int32 → Mem → Option ((Int32 × Mem))
  | 0 => fun _ _ _ _ => none
  | f + 1 => BM_foreign_4 (LM_foreign_4 f)
def fM_foreign (v0 : Nat) (M : Mem) : Option (Int32 × Mem) :=
  (LM_foreign_4 1000000 v0 0 0 M).bind (fun r2 => some r2)
def BM_timesOf_133 (K : Nat → Int32 → Int32 → Int32 → Int32 → Int32 → Mem → Option ((Int32 × Mem))) (v0 : Nat) (v1 : Int32) (v2 : Int32) (v4 : Int32) (v5 : Int32) (w0 : Int32) (w1 : Int32) (M : Mem) : Option ((Int32 × Mem)) :=
  K v0 v1 v2 (w0 + w1) v4 (v5 + 1) M
def BM_timesOf_93 (K : Nat → Int32 → Int32 → Int32 → Int32 → Int32 → Mem → Option ((Int32 × Mem))) (v0 : Nat) (v1 : Int32) (v2 : Int32) (v3 : Int32) (v4 : Int32) (v5 : Int32) (M : Mem) : Option ((Int32 × Mem)) :=
  gd (obM M v0 11 34) <| gd (decide (grM M v0 15 ≠ 0)) <| (fM_boxAt v4 v1 M).bind fun q3 => gd (rdI q3.2 (grM M v0 15) q3.1) <| if (giM q3.2 (grM M v0 15) (Int32.toNatClampNeg q3.1)) < v5 then (some (v3, q3.2)) else (gd (obM q3.2 v0 11 34) <| gd (decide (grM q3.2 v0 15 ≠ 0)) <| (fM_boxAt v4 v1 q3.2).bind fun q7 => gd (rdI q7.2 (grM q3.2 v0 15) (q7.1 + v5)) <| if (giM q7.2 (grM q3.2 v0 15) (Int32.toNatClampNeg (q7.1 + v5))) = v2 then (BM_timesOf_133 K v0 v1 v2 v4 v5 v3 1 q7.2) else (BM_timesOf_133 K v0 v1 v2 v4 v5 v3 0 q7.2))
def LM_timesOf_93 : Nat → Nat → Int32 → Int32 → Int32 → Int32 → Int32 → Mem → Option ((Int32 × Mem))
  | 0 => fun _ _ _ _ _ _ _ => none
  | f + 1 => BM_timesOf_93 (LM_timesOf_93 f)
def BM_timesOf_79 (K : Nat → Int32 → Int32 → Int32 → Int32 → Mem → Option ((Int32 × Mem))) (v0 : Nat) (v1 : Int32) (v2 : Int32) (v3 : Int32) (v4 : Int32) (M : Mem) : Option ((Int32 × Mem)) :=
  gd (obM M v0 11 34) <| gd (decide (grM M v0 8 ≠ 0)) <| gd (rdI M (grM M v0 8) 0) <| if (giM M (grM M v0 8) (Int32.toNatClampNeg 0)) ≤ v4 then (some (v3, M)) else ((LM_timesOf_93 1000000 v0 v1 v2 v3 v4 1 M).bind (fun y5 => K v0 v1 v2 y5.1 (v4 + 1) y5.2))
def LM_timesOf_79 : Nat → Nat → Int32 → Int32 → Int32 → Int32 → Mem → Option ((Int32 × Mem))
  | 0 => fun _ _ _ _ _ _ => none
  | f + 1 => BM_timesOf_79 (LM_timesOf_79 f)
def BM_timesOf_62 (K : Nat → Int32 → Int32 → Int32 → Int32 → Int32 → Mem → Option ((Int32 × Mem))) (v0 : Nat) (v1 : Int32) (v2 : Int32) (v4 : Int32) (v5 : Int32) (w0 : Int32) (w1 : Int32) (M : Mem) : Option ((Int32 × Mem)) :=
  K v0 v1 v2 (w0 + w1) v4 (v5 + 1) M
def BM_timesOf_22 (K : Nat → Int32 → Int32 → Int32 → Int32 → Int32 → Mem → Option ((Int32 × Mem))) (v0 : Nat) (v1 : Int32) (v2 : Int32) (v3 : Int32) (v4 : Int32) (v5 : Int32) (M : Mem) : Option ((Int32 × Mem)) :=
  gd (obM M v0 11 34) <| gd (decide (grM M v0 15 ≠ 0)) <| (fM_listAt v1 v4 M).bind fun q3 => gd (rdI q3.2 (grM M v0 15) q3.1) <| if (giM q3.2 (grM M v0 15) (Int32.toNatClampNeg q3.1)) < v5 then (some (v3, q3.2)) else (gd (obM q3.2 v0 11 34) <| gd (decide (grM q3.2 v0 15 ≠ 0)) <| (fM_listAt v1 v4 q3.2).bind fun q7 => gd (rdI q7.2 (grM q3.2 v0 15) (q7.1 + v5)) <| if (giM q7.2 (grM q3.2 v0 15) (Int32.toNatClampNeg (q7.1 + v5))) = v2 then (BM_timesOf_62 K v0 v1 v2 v4 v5 v3 1 q7.2) else (BM_timesOf_62 K v0 v1 v2 v4 v5 v3 0 q7.2))
def LM_timesOf_22 : Nat → Nat → Int32 → Int32 → Int32 → Int32 → Int32 → Mem → Option ((Int32 × Mem))
  | 0 => fun _ _ _ _ _ _ _ => none
  | f + 1 => BM_timesOf_22 (LM_timesOf_22 f)
def BM_timesOf_13 (K : Nat → Int32 → Int32 → Int32 → Int32 → Mem → Option ((Int32 × Mem))) (v0 : Nat) (v1 : Int32) (v2 : Int32) (v3 : Int32) (v4 : Int32) (M : Mem) : Option ((Int32 × Mem)) :=
  if 3 ≤ v4 then (some (v3, M)) else ((LM_timesOf_22 1000000 v0 v1 v2 v3 v4 1 M).bind (fun y2 => K v0 v1 v2 y2.1 (v4 + 1) y2.2))
def LM_timesOf_13 : Nat → Nat → Int32 → Int32 → Int32 → Int32 → Mem → Option ((Int32 × Mem))
  | 0 => fun _ _ _ _ _ _ => none
  | f + 1 => BM_timesOf_13 (LM_timesOf_13 f)
def fM_timesOf (v0 : Nat) (v1 : Int32) (v2 : Int32) (M : Mem) : Option (Int32 × Mem) :=
  gd (obM M v0 11 34) <| (fM_of v0 v1 (126 + v2) M).bind fun q1 => (LM_timesOf_13 1000000 v0 v1 v2 q1.1 0 q1.2).bind (fun y4 => (LM_timesOf_79 1000000 v0 v1 v2 y4.1 0 y4.2).bind (fun r6 => some r6))
def BM_lostMany_41 (K : Nat → Int32 → Int32 → Int32 → Mem → Option ((Int32 × Mem))) (v0 : Nat) (v2 : Int32) (v3 : Int32) (w0 : Int32) (w1 : Int32) (M : Mem) : Option ((Int32 × Mem)) :=
  K v0 (w0 + w1) v2 (v3 + 1) M
def BM_lostMany_16 (K : Nat → Int32 → Int32 → Int32 → Mem → Option ((Int32 × Mem))) (v0 : Nat) (v1 : Int32) (v2 : Int32) (v3 : Int32) (M : Mem) : Option ((Int32 × Mem)) :=
  gd (obM M v0 11 34) <| (fM_blocksOf v0 v2 M).bind fun q1 => if q1.1 ≤ v3 then (some (v1, q1.2)) else (gd (obM q1.2 v0 11 34) <| (fM_timesOf v0 v2 v3 q1.2).bind fun q3 => if q3.1 = 1 then (BM_lostMany_41 K v0 v2 v3 v1 0 q3.2) else (BM_lostMany_41 K v0 v2 v3 v1 1 q3.2))
def LM_lostMany_16 : Nat → Nat → Int32 → Int32 → Int32 → Mem → Option ((Int32 × Mem))
  | 0 => fun _ _ _ _ _ => none
  | f + 1 => BM_lostMany_16 (LM_lostMany_16 f)
def BM_lostMany_4 (K : Nat → Int32 → Int32 → Mem → Option ((Int32 × Mem))) (v0 : Nat) (v1 : Int32) (v2 : Int32) (M : Mem) : Option ((Int32 × Mem)) :=
  gd (obM M v0 11 34) <| gd (decide (grM M v0 8 ≠ 0)) <| gd (rdI M (grM M v0 8) 1) <| if (giM M (grM M v0 8) (Int32.toNatClampNeg 1)) ≤ v2 then (some (v1, M)) else ((LM_lostMany_16 1000000 v0 v1 v2 0 M).bind (fun y5 => K v0 y5.1 (v2 + 1) y5.2))
def LM_lostMany_4 : Nat → Nat → Int32 → Int32 → Mem → Option ((Int32 × Mem))
  | 0 => fun _ _ _ _ => none
  | f + 1 => BM_lostMany_4 (LM_lostMany_4 f)
def fM_lostMany (v0 : Nat) (M : Mem) : Option (Int32 × Mem) :=
  (LM_lostMany_4 1000000 v0 0 0 M).bind (fun r2 => some r2)
def BM_most_17 (M : Mem) : Option (Int32 × Mem) :=
  some ((-1000000), M)
def fM_most (v0 : Nat) (v1 : Int32) (M : Mem) : Option (Int32 × Mem) :=
  gd (obM M v0 11 34) <| (fM_isArena v0 M).bind fun q1 => if q1.1 = 0 then (BM_most_17  q1.2) else ((fM_in v1 0 11 q1.2).bind fun q3 => if q3.1 = 0 then (BM_most_17  q3.2) else (if v1 = 0 then (gd (obM q3.2 v0 11 34) <| (fM_fullest v0 q3.2).bind fun q4 => some (q4.1, q4.2)) else if v1 = 1 then (gd (obM q3.2 v0 11 34) <| (fM_richest v0 q3.2).bind fun q6 => some (q6.1, q6.2)) else if v1 = 2 then (gd (obM q3.2 v0 11 34) <| (fM_living v0 q3.2).bind fun q8 => some (q8.1, q8.2)) else if v1 = 3 then (gd (obM q3.2 v0 11 34) <| (fM_pagesThat v0 3 q3.2).bind fun q10 => some (q10.1, q10.2)) else if v1 = 4 then (gd (obM q3.2 v0 11 34) <| (fM_pagesThat v0 0 q3.2).bind fun q12 => some (q12.1, q12.2)) else if v1 = 5 then (gd (obM q3.2 v0 11 34) <| (fM_pagesThat v0 2 q3.2).bind fun q14 => some (q14.1, q14.2)) else if v1 = 6 then (gd (obM q3.2 v0 11 34) <| (fM_pagesThat v0 1 q3.2).bind fun q16 => some (q16.1, q16.2)) else if v1 = 7 then (gd (obM q3.2 v0 11 34) <| (fM_heldMany v0 q3.2).bind fun q18 => some (q18.1, q18.2)) else if v1 = 8 then (gd (obM q3.2 v0 11 34) <| (fM_outMany v0 q3.2).bind fun q20 => some (q20.1, q20.2)) else if v1 = 9 then (gd (obM q3.2 v0 11 34) <| (fM_idle v0 q3.2).bind fun q22 => some (q22.1, q22.2)) else if v1 = 10 then (gd (obM q3.2 v0 11 34) <| (fM_foreign v0 q3.2).bind fun q24 => some (q24.1, q24.2)) else (gd (obM q3.2 v0 11 34) <| (fM_lostMany v0 q3.2).bind fun q26 => some (q26.1, q26.2))))
def BM_image_11 (K : Nat → Int32 → Mem → Option ((Int32 × Mem))) (v0 : Nat) (v1 : Int32) (M : Mem) : Option ((Int32 × Mem)) :=
  if 3893 ≤ v1 then (gd (obM M v0 11 34) <| (fM_heldMany v0 (siM M v0 33 1)).bind fun q2 => some (q2.1, q2.2)) else (gd (obM M v0 11 34) <| gd (decide (grM M v0 32 ≠ 0)) <| gd (decide (grM M v0 15 ≠ 0)) <| gd (rdI M (grM M v0 15) v1) <| gd (wrI M (grM M v0 32) v1) <| K v0 (v1 + 1) (siM M (grM M v0 32) (Int32.toNatClampNeg v1) (giM M (grM M v0 15) (Int32.toNatClampNeg v1))))
def LM_image_11 : Nat → Nat → Int32 → Mem → Option ((Int32 × Mem))
  | 0 => fun _ _ _ => none
  | f + 1 => BM_image_11 (LM_image_11 f)
def fM_image (v0 : Nat) (M : Mem) : Option (Int32 × Mem) :=
  gd (obM M v0 11 34) <| (fM_isArena v0 M).bind fun q1 => if q1.1 = 0 then (some ((-1), q1.2)) else ((LM_image_11 1000000 v0 0 q1.2).bind (fun r4 => some r4))
def BM_back_11 (K : Nat → Int32 → Mem → Option ((Int32 × Mem))) (v0 : Nat) (v1 : Int32) (M : Mem) : Option ((Int32 × Mem)) :=
  if 3893 ≤ v1 then (gd (obM M v0 11 34) <| (fM_heldMany v0 (siM M v0 25 0)).bind fun q2 => some (q2.1, q2.2)) else (gd (obM M v0 11 34) <| gd (decide (grM M v0 15 ≠ 0)) <| gd (decide (grM M v0 32 ≠ 0)) <| gd (rdI M (grM M v0 32) v1) <| gd (wrI M (grM M v0 15) v1) <| K v0 (v1 + 1) (siM M (grM M v0 15) (Int32.toNatClampNeg v1) (giM M (grM M v0 32) (Int32.toNatClampNeg v1))))
def LM_back_11 : Nat → Nat → Int32 → Mem → Option ((Int32 × Mem))
  | 0 => fun _ _ _ => none
  | f + 1 => BM_back_11 (LM_back_11 f)
def fM_back (v0 : Nat) (M : Mem) : Option (Int32 × Mem) :=
  gd (obM M v0 11 34) <| if (giM M v0 33) = 0 then (some ((-1), M)) else ((LM_back_11 1000000 v0 0 M).bind (fun r3 => some r3))
def fM_count (v0 : Nat) (v1 : Int32) (M : Mem) : Option (Int32 × Mem) :=
  if v1 = 0 then (gd (obM M v0 11 34) <| some (giM M v0 10, M)) else if v1 = 1 then (gd (obM M v0 11 34) <| some (giM M v0 13, M)) else if v1 = 2 then (gd (obM M v0 11 34) <| some (giM M v0 2, M)) else if v1 = 3 then (gd (obM M v0 11 34) <| gd (decide (grM M v0 15 ≠ 0)) <| gd (rdI M (grM M v0 15) 3712) <| some (giM M (grM M v0 15) (Int32.toNatClampNeg 3712), M)) else if v1 = 4 then (gd (obM M v0 11 34) <| some (giM M v0 25, M)) else (some ((-1000000), M))
