def f_C_0 (fu : Nat) (uP : sPar) (uC : sCla) (uD : sDeb) (uJ : sJou) (ur : xF32) (ut : xF32) (ud : Int32) (ug : Int32) (uM2 : Int32) (uF0 : Int32) (uF1 : xF64) (uF5 : Int32) : Option (sPar × sCla × sDeb × sJou × xF32 × xF32 × Int32 × Int32 × Int32 × Int32 × xF64 × Int32) :=
  xb10 (f_X7_clear uP uC uD uJ ur ut ud ug uM2) fun v1 uP_2 uC_3 uD_4 uJ_5 ur_6 ut_7 ud_8 ug_9 uM2_10 => (xb4 (f_X8_clear fu uF0 uF1 uF5) fun v12 uF0_13 uF1_14 uF5_15 => (if v1 = v12 then (some (uP_2, uC_3, uD_4, uJ_5, ur_6, ut_7, ud_8, ug_9, uM2_10, uF0_13, uF1_14, uF5_15)) else (none)))
def f_C_1 (fu : Nat) (a1 a2 : Int32) (uA : Nat → sAcc) (uP : sPar) (uC : sCla) (uD : sDeb) (uJ : sJou) (ur : xF32) (ut : xF32) (ud : Int32) (ug : Int32) (uM1 : Int32) (uM2 : Int32) (uF0 : Int32) (uF1 : xF64) (uF3 : xF64) (uF4 : xF64) (uF5 : Int32) (uo : xF64) : Option ((Nat → sAcc) × sPar × Int32 × Int32 × Int32 × xF64 × xF64 × xF64 × Int32 × xF64) :=
  xb6 (f_L_addParty a1 a2 uA uP uC uD uJ ur ut ud ug uM1 uM2 uo) fun v1 uA_2 uP_3 uM1_4 uM2_5 uo_6 => (xb6 (f_X8_addParty fu a1 a2 uF0 uF1 uF3 uF4 uF5) fun v8 uF0_9 uF1_10 uF3_11 uF4_12 uF5_13 => (xb1 (f_X8_thrown uF0_9) fun v15 => (if v15 = v1 then (if v1 = 0 then (xk (xin 0 1) (if (uo_6 (0 : Int32).toNatClampNeg) = v8.toInt64 then (some (uA_2, uP_3, uM1_4, uM2_5, uF0_9, uF1_10, uF3_11, uF4_12, uF5_13, uo_6)) else (none))) else (some (uA_2, uP_3, uM1_4, uM2_5, uF0_9, uF1_10, uF3_11, uF4_12, uF5_13, uo_6))) else (none))))
def f_C_2 (fu : Nat) (a1 a2 : Int32) (uA : Nat → sAcc) (uP : sPar) (uC : sCla) (uD : sDeb) (uJ : sJou) (ur : xF32) (ut : xF32) (ud : Int32) (ug : Int32) (uM1 : Int32) (uM2 : Int32) (uM3 : Int32) (uF0 : Int32) (uF1 : xF64) (uF3 : xF64) (uF4 : xF64) (uF5 : Int32) (uo : xF64) : Option ((Nat → sAcc) × xF32 × Int32 × Int32 × Int32 × Int32 × xF64 × xF64 × xF64 × Int32 × xF64) :=
  xb7 (f_L_setRate a1 a2 uA uP uC uD uJ ur ut ud ug uM1 uM2 uM3 uo) fun v1 uA_2 ur_3 uM1_4 uM2_5 uM3_6 uo_7 => (xb6 (f_X8_setRate fu a1 a2 uF0 uF1 uF3 uF4 uF5) fun v9 uF0_10 uF1_11 uF3_12 uF4_13 uF5_14 => (xb1 (f_X8_thrown uF0_10) fun v16 => (if v16 = v1 then (if v1 = 0 then (xk (xin 0 1) (if (uo_7 (0 : Int32).toNatClampNeg) = v9.toInt64 then (some (uA_2, ur_3, uM1_4, uM2_5, uM3_6, uF0_10, uF1_11, uF3_12, uF4_13, uF5_14, uo_7)) else (none))) else (some (uA_2, ur_3, uM1_4, uM2_5, uM3_6, uF0_10, uF1_11, uF3_12, uF4_13, uF5_14, uo_7))) else (none))))
def f_C_3 (fu : Nat) (a1 a2 : Int32) (uA : Nat → sAcc) (uP : sPar) (uC : sCla) (uD : sDeb) (uJ : sJou) (ur : xF32) (ut : xF32) (ud : Int32) (ug : Int32) (uM1 : Int32) (uM2 : Int32) (uM3 : Int32) (uF0 : Int32) (uF1 : xF64) (uF3 : xF64) (uF4 : xF64) (uF5 : Int32) (uo : xF64) : Option ((Nat → sAcc) × xF32 × Int32 × Int32 × Int32 × Int32 × xF64 × xF64 × xF64 × Int32 × xF64) :=
  xb7 (f_L_setTier a1 a2 uA uP uC uD uJ ur ut ud ug uM1 uM2 uM3 uo) fun v1 uA_2 ut_3 uM1_4 uM2_5 uM3_6 uo_7 => (xb6 (f_X8_setTier fu a1 a2 uF0 uF1 uF3 uF4 uF5) fun v9 uF0_10 uF1_11 uF3_12 uF4_13 uF5_14 => (xb1 (f_X8_thrown uF0_10) fun v16 => (if v16 = v1 then (if v1 = 0 then (xk (xin 0 1) (if (uo_7 (0 : Int32).toNatClampNeg) = v9.toInt64 then (some (uA_2, ut_3, uM1_4, uM2_5, uM3_6, uF0_10, uF1_11, uF3_12, uF4_13, uF5_14, uo_7)) else (none))) else (some (uA_2, ut_3, uM1_4, uM2_5, uM3_6, uF0_10, uF1_11, uF3_12, uF4_13, uF5_14, uo_7))) else (none))))
def f_C_4 (fu : Nat) (a1 a2 : Int32) (uP : sPar) (uC : sCla) (uD : sDeb) (ut : xF32) (uM3 : Int32) (uF0 : Int32) (uF1 : xF64) (uo : xF64) : Option (Int32 × Int32 × xF64) :=
  xb3 (f_L_party fu a1 a2 uP uC uD ut uM3 uo) fun v1 uM3_2 uo_3 => (xb2 (f_X8_party fu a1 a2 uF0 uF1) fun v5 uF0_6 => (xb1 (f_X8_thrown uF0_6) fun v8 => (if v8 = v1 then (if v1 = 0 then (xk (xin 0 1) (if (uo_3 (0 : Int32).toNatClampNeg) = v5 then (some (uM3_2, uF0_6, uo_3)) else (none))) else (some (uM3_2, uF0_6, uo_3))) else (none))))
def f_C_5 (fu : Nat) (a1 a2 a3 : Int32) (uA : Nat → sAcc) (uP : sPar) (uC : sCla) (uD : sDeb) (uJ : sJou) (ur : xF32) (ut : xF32) (ud : Int32) (ug : Int32) (uM1 : Int32) (uM2 : Int32) (uM3 : Int32) (uF0 : Int32) (uF1 : xF64) (uF3 : xF64) (uF4 : xF64) (uF5 : Int32) (uF11 : Int64) (uo : xF64) : Option ((Nat → sAcc) × sCla × Int32 × Int32 × Int32 × Int32 × xF64 × xF64 × xF64 × Int32 × Int64 × xF64) :=
  xb7 (f_L_claim a1 a2 a3 uA uP uC uD uJ ur ut ud ug uM1 uM2 uM3 uo) fun v1 uA_2 uC_3 uM1_4 uM2_5 uM3_6 uo_7 => (xb7 (f_X8_claim fu a1 a2 a3 uF0 uF1 uF3 uF4 uF5 uF11) fun v9 uF0_10 uF1_11 uF3_12 uF4_13 uF5_14 uF11_15 => (xb1 (f_X8_thrown uF0_10) fun v17 => (if v17 = v1 then (if v1 = 0 then (xk (xin 0 1) (if (uo_7 (0 : Int32).toNatClampNeg) = v9.toInt64 then (some (uA_2, uC_3, uM1_4, uM2_5, uM3_6, uF0_10, uF1_11, uF3_12, uF4_13, uF5_14, uF11_15, uo_7)) else (none))) else (some (uA_2, uC_3, uM1_4, uM2_5, uM3_6, uF0_10, uF1_11, uF3_12, uF4_13, uF5_14, uF11_15, uo_7))) else (none))))
def f_C_6 (fu : Nat) (a1 a2 : Int32) (uA : Nat → sAcc) (uP : sPar) (uC : sCla) (uD : sDeb) (uJ : sJou) (ur : xF32) (ut : xF32) (ud : Int32) (ug : Int32) (uM1 : Int32) (uM2 : Int32) (uM3 : Int32) (uF0 : Int32) (uF1 : xF64) (uF3 : xF64) (uF4 : xF64) (uF5 : Int32) (uF7 : Int32) (uF11 : Int64) (uo : xF64) : Option ((Nat → sAcc) × sCla × sDeb × sJou × Int32 × Int32 × Int32 × Int32 × xF64 × xF64 × xF64 × Int32 × Int32 × Int64 × xF64) :=
  xb9 (f_L_award fu a1 a2 uA uP uC uD uJ ur ut ud ug uM1 uM2 uM3 uo) fun v1 uA_2 uC_3 uD_4 uJ_5 uM1_6 uM2_7 uM3_8 uo_9 => (xb8 (f_X8_award fu a1 a2 uF0 uF1 uF3 uF4 uF5 uF7 uF11) fun v11 uF0_12 uF1_13 uF3_14 uF4_15 uF5_16 uF7_17 uF11_18 => (xb1 (f_X8_thrown uF0_12) fun v20 => (if v20 = v1 then (if v1 = 0 then (xk (xin 0 1) (if (uo_9 (0 : Int32).toNatClampNeg) = v11.toInt64 then (some (uA_2, uC_3, uD_4, uJ_5, uM1_6, uM2_7, uM3_8, uF0_12, uF1_13, uF3_14, uF4_15, uF5_16, uF7_17, uF11_18, uo_9)) else (none))) else (some (uA_2, uC_3, uD_4, uJ_5, uM1_6, uM2_7, uM3_8, uF0_12, uF1_13, uF3_14, uF4_15, uF5_16, uF7_17, uF11_18, uo_9))) else (none))))
def f_C_7 (fu : Nat) (a1 a2 : Int32) (uA : Nat → sAcc) (uP : sPar) (uC : sCla) (uD : sDeb) (uJ : sJou) (ur : xF32) (ut : xF32) (ud : Int32) (ug : Int32) (uM1 : Int32) (uM2 : Int32) (uM3 : Int32) (uF0 : Int32) (uF1 : xF64) (uF3 : xF64) (uF4 : xF64) (uF5 : Int32) (uF7 : Int32) (uF11 : Int64) (uo : xF64) : Option ((Nat → sAcc) × sCla × sJou × Int32 × Int32 × Int32 × Int32 × xF64 × xF64 × xF64 × Int32 × Int32 × Int64 × xF64) :=
  xb8 (f_L_dismiss fu a1 a2 uA uP uC uD uJ ur ut ud ug uM1 uM2 uM3 uo) fun v1 uA_2 uC_3 uJ_4 uM1_5 uM2_6 uM3_7 uo_8 => (xb8 (f_X8_dismiss fu a1 a2 uF0 uF1 uF3 uF4 uF5 uF7 uF11) fun v10 uF0_11 uF1_12 uF3_13 uF4_14 uF5_15 uF7_16 uF11_17 => (xb1 (f_X8_thrown uF0_11) fun v19 => (if v19 = v1 then (if v1 = 0 then (xk (xin 0 1) (if (uo_8 (0 : Int32).toNatClampNeg) = v10.toInt64 then (some (uA_2, uC_3, uJ_4, uM1_5, uM2_6, uM3_7, uF0_11, uF1_12, uF3_13, uF4_14, uF5_15, uF7_16, uF11_17, uo_8)) else (none))) else (some (uA_2, uC_3, uJ_4, uM1_5, uM2_6, uM3_7, uF0_11, uF1_12, uF3_13, uF4_14, uF5_15, uF7_16, uF11_17, uo_8))) else (none))))
def f_C_8 (fu : Nat) (a1 a2 : Int32) (uA : Nat → sAcc) (uP : sPar) (uC : sCla) (uD : sDeb) (uJ : sJou) (ur : xF32) (ut : xF32) (ud : Int32) (ug : Int32) (uM1 : Int32) (uM2 : Int32) (uM3 : Int32) (uF0 : Int32) (uF1 : xF64) (uF3 : xF64) (uF4 : xF64) (uF5 : Int32) (uF7 : Int32) (uF11 : Int64) (uo : xF64) : Option ((Nat → sAcc) × sCla × sJou × Int32 × Int32 × Int32 × Int32 × xF64 × xF64 × xF64 × Int32 × Int32 × Int64 × xF64) :=
  xb8 (f_L_withdraw fu a1 a2 uA uP uC uD uJ ur ut ud ug uM1 uM2 uM3 uo) fun v1 uA_2 uC_3 uJ_4 uM1_5 uM2_6 uM3_7 uo_8 => (xb8 (f_X8_withdraw fu a1 a2 uF0 uF1 uF3 uF4 uF5 uF7 uF11) fun v10 uF0_11 uF1_12 uF3_13 uF4_14 uF5_15 uF7_16 uF11_17 => (xb1 (f_X8_thrown uF0_11) fun v19 => (if v19 = v1 then (if v1 = 0 then (xk (xin 0 1) (if (uo_8 (0 : Int32).toNatClampNeg) = v10.toInt64 then (some (uA_2, uC_3, uJ_4, uM1_5, uM2_6, uM3_7, uF0_11, uF1_12, uF3_13, uF4_14, uF5_15, uF7_16, uF11_17, uo_8)) else (none))) else (some (uA_2, uC_3, uJ_4, uM1_5, uM2_6, uM3_7, uF0_11, uF1_12, uF3_13, uF4_14, uF5_15, uF7_16, uF11_17, uo_8))) else (none))))
def f_C_9 (fu : Nat) (a1 a2 : Int32) (uC : sCla) (uM3 : Int32) (uF0 : Int32) (uF1 : xF64) (uo : xF64) : Option (Int32 × Int32 × xF64) :=
  xb3 (f_L_claimed a1 a2 uC uM3 uo) fun v1 uM3_2 uo_3 => (xb2 (f_X8_claimed a1 a2 uF0 uF1) fun v5 uF0_6 => (xb1 (f_X8_thrown uF0_6) fun v8 => (if v8 = v1 then (if v1 = 0 then (xk (xin 0 1) (if (uo_3 (0 : Int32).toNatClampNeg) = v5.toInt64 then (some (uM3_2, uF0_6, uo_3)) else (none))) else (some (uM3_2, uF0_6, uo_3))) else (none))))
def f_C_10 (fu : Nat) (uM3 : Int32) (uF0 : Int32) (uF7 : Int32) (uo : xF64) : Option (Int32 × xF64) :=
  xb2 (f_L_reason uM3 uo) fun v1 uo_2 => (xb2 (f_X8_reason uF0 uF7) fun v4 uF0_5 => (xb1 (f_X8_thrown uF0_5) fun v7 => (if v7 = v1 then (if v1 = 0 then (xk (xin 0 1) (if (uo_2 (0 : Int32).toNatClampNeg) = v4.toInt64 then (some (uF0_5, uo_2)) else (none))) else (some (uF0_5, uo_2))) else (none))))
def f_C_11 (fu : Nat) (uC : sCla) (uF0 : Int32) (uF1 : xF64) : Option (Int32) :=
  xb1 (f_X7_inDispute fu uC) fun v1 => (xb2 (f_X8_inDispute fu uF0 uF1) fun v3 uF0_4 => (if v1 = v3 then (some uF0_4) else (none)))
def f_C_12 (fu : Nat) (a1 : Int32) (uC : sCla) (ut : xF32) (uF0 : Int32) (uF1 : xF64) (uo : xF64) : Option (Int32 × xF64) :=
  xb2 (f_L_fees fu a1 uC ut uo) fun v1 uo_2 => (xb2 (f_X8_fees fu a1 uF0 uF1) fun v4 uF0_5 => (xb1 (f_X8_thrown uF0_5) fun v7 => (if v7 = v1 then (if v1 = 0 then (xk (xin 0 1) (if (uo_2 (0 : Int32).toNatClampNeg) = v4 then (some (uF0_5, uo_2)) else (none))) else (some (uF0_5, uo_2))) else (none))))
def f_C_13 (fu : Nat) (a1 : Int32) (ut : xF32) (uF0 : Int32) (uF1 : xF64) (uo : xF64) : Option (Int32 × xF64) :=
  xb2 (f_L_wouldBe fu a1 ut uo) fun v1 uo_2 => (xb2 (f_X8_wouldBe a1 uF0 uF1) fun v4 uF0_5 => (xb1 (f_X8_thrown uF0_5) fun v7 => (if v7 = v1 then (if v1 = 0 then (xk (xin 0 1) (if (uo_2 (0 : Int32).toNatClampNeg) = v4 then (some (uF0_5, uo_2)) else (none))) else (some (uF0_5, uo_2))) else (none))))
def f_C_14 (fu : Nat) (a1 a2 : Int32) (uP : sPar) (uC : sCla) (ut : xF32) (uM3 : Int32) (uF0 : Int32) (uF1 : xF64) (uo : xF64) : Option (Int32 × Int32 × xF64) :=
  xb3 (f_L_side fu a1 a2 uP uC ut uM3 uo) fun v1 uM3_2 uo_3 => (xb2 (f_X8_side fu a1 a2 uF0 uF1) fun v5 uF0_6 => (xb1 (f_X8_thrown uF0_6) fun v8 => (if v8 = v1 then (if v1 = 0 then (xk (xin 0 1) (if (uo_3 (0 : Int32).toNatClampNeg) = v5 then (some (uM3_2, uF0_6, uo_3)) else (none))) else (some (uM3_2, uF0_6, uo_3))) else (none))))
def f_C_15 (fu : Nat) (a1 : Int32) (uA : Nat → sAcc) (uP : sPar) (uC : sCla) (uD : sDeb) (uJ : sJou) (ur : xF32) (ut : xF32) (ud : Int32) (ug : Int32) (uM1 : Int32) (uM2 : Int32) (uF0 : Int32) (uF1 : xF64) (uF3 : xF64) (uF4 : xF64) (uF5 : Int32) (uo : xF64) : Option ((Nat → sAcc) × sPar × sJou × Int32 × Int32 × Int32 × xF64 × xF64 × xF64 × Int32 × xF64) :=
  xb7 (f_L_call fu a1 uA uP uC uD uJ ur ut ud ug uM1 uM2 uo) fun v1 uA_2 uP_3 uJ_4 uM1_5 uM2_6 uo_7 => (xb6 (f_X8_call fu a1 uF0 uF1 uF3 uF4 uF5) fun v9 uF0_10 uF1_11 uF3_12 uF4_13 uF5_14 => (xb1 (f_X8_thrown uF0_10) fun v16 => (if v16 = v1 then (if v1 = 0 then (xk (xin 0 1) (if (uo_7 (0 : Int32).toNatClampNeg) = v9 then (some (uA_2, uP_3, uJ_4, uM1_5, uM2_6, uF0_10, uF1_11, uF3_12, uF4_13, uF5_14, uo_7)) else (none))) else (some (uA_2, uP_3, uJ_4, uM1_5, uM2_6, uF0_10, uF1_11, uF3_12, uF4_13, uF5_14, uo_7))) else (none))))
def f_C_16 (fu : Nat) (a1 a2 : Int32) (uA : Nat → sAcc) (uP : sPar) (uC : sCla) (uD : sDeb) (uJ : sJou) (ur : xF32) (ut : xF32) (ud : Int32) (ug : Int32) (uM1 : Int32) (uM2 : Int32) (uM3 : Int32) (uF0 : Int32) (uF1 : xF64) (uF3 : xF64) (uF4 : xF64) (uF5 : Int32) (uF11 : Int64) (uo : xF64) : Option ((Nat → sAcc) × sPar × sJou × Int32 × Int32 × Int32 × Int32 × xF64 × xF64 × xF64 × Int32 × Int64 × xF64) :=
  xb8 (f_L_pay fu a1 a2 uA uP uC uD uJ ur ut ud ug uM1 uM2 uM3 uo) fun v1 uA_2 uP_3 uJ_4 uM1_5 uM2_6 uM3_7 uo_8 => (xb7 (f_X8_pay fu a1 a2 uF0 uF1 uF3 uF4 uF5 uF11) fun v10 uF0_11 uF1_12 uF3_13 uF4_14 uF5_15 uF11_16 => (xb1 (f_X8_thrown uF0_11) fun v18 => (if v18 = v1 then (if v1 = 0 then (xk (xin 0 1) (if (uo_8 (0 : Int32).toNatClampNeg) = v10 then (some (uA_2, uP_3, uJ_4, uM1_5, uM2_6, uM3_7, uF0_11, uF1_12, uF3_13, uF4_14, uF5_15, uF11_16, uo_8)) else (none))) else (some (uA_2, uP_3, uJ_4, uM1_5, uM2_6, uM3_7, uF0_11, uF1_12, uF3_13, uF4_14, uF5_15, uF11_16, uo_8))) else (none))))
def f_C_17 (fu : Nat) (a1 a2 : Int32) (uA : Nat → sAcc) (uP : sPar) (uC : sCla) (uD : sDeb) (uJ : sJou) (ur : xF32) (ut : xF32) (ud : Int32) (ug : Int32) (uM1 : Int32) (uM2 : Int32) (uM3 : Int32) (uF0 : Int32) (uF1 : xF64) (uF3 : xF64) (uF4 : xF64) (uF5 : Int32) (uo : xF64) : Option ((Nat → sAcc) × sPar × sDeb × sJou × Int32 × Int32 × Int32 × Int32 × xF64 × xF64 × xF64 × Int32 × xF64) :=
  xb9 (f_L_payFor fu a1 a2 uA uP uC uD uJ ur ut ud ug uM1 uM2 uM3 uo) fun v1 uA_2 uP_3 uD_4 uJ_5 uM1_6 uM2_7 uM3_8 uo_9 => (xb6 (f_X8_payFor fu a1 a2 uF0 uF1 uF3 uF4 uF5) fun v11 uF0_12 uF1_13 uF3_14 uF4_15 uF5_16 => (xb1 (f_X8_thrown uF0_12) fun v18 => (if v18 = v1 then (if v1 = 0 then (xk (xin 0 1) (if (uo_9 (0 : Int32).toNatClampNeg) = v11 then (some (uA_2, uP_3, uD_4, uJ_5, uM1_6, uM2_7, uM3_8, uF0_12, uF1_13, uF3_14, uF4_15, uF5_16, uo_9)) else (none))) else (some (uA_2, uP_3, uD_4, uJ_5, uM1_6, uM2_7, uM3_8, uF0_12, uF1_13, uF3_14, uF4_15, uF5_16, uo_9))) else (none))))
def f_C_18 (fu : Nat) (uA : Nat → sAcc) (uP : sPar) (uC : sCla) (uD : sDeb) (uJ : sJou) (ur : xF32) (ut : xF32) (ud : Int32) (ug : Int32) (uM1 : Int32) (uM2 : Int32) (uF0 : Int32) (uF1 : xF64) (uF3 : xF64) (uF4 : xF64) (uF5 : Int32) : Option ((Nat → sAcc) × sPar × sJou × Int32 × Int32 × Int32 × xF64 × xF64 × xF64 × Int32) :=
  xb6 (f_X7_takeFees fu uA uP uC uD uJ ur ut ud ug uM1 uM2) fun v1 uA_2 uP_3 uJ_4 uM1_5 uM2_6 => (xb6 (f_X8_takeFees fu uF0 uF1 uF3 uF4 uF5) fun v8 uF0_9 uF1_10 uF3_11 uF4_12 uF5_13 => (if v1 = v8 then (some (uA_2, uP_3, uJ_4, uM1_5, uM2_6, uF0_9, uF1_10, uF3_11, uF4_12, uF5_13)) else (none)))
def f_C_19 (fu : Nat) (uA : Nat → sAcc) (uP : sPar) (uC : sCla) (uD : sDeb) (uJ : sJou) (ur : xF32) (ut : xF32) (ud : Int32) (ug : Int32) (uM1 : Int32) (uM2 : Int32) (uM3 : Int32) (uF0 : Int32) (uF1 : xF64) (uF3 : xF64) (uF4 : xF64) (uF5 : Int32) (uF7 : Int32) (uo : xF64) : Option ((Nat → sAcc) × sPar × sJou × Int32 × Int32 × Int32 × Int32 × xF64 × xF64 × xF64 × Int32 × Int32 × xF64) :=
  xb8 (f_L_giveBack fu uA uP uC uD uJ ur ut ud ug uM1 uM2 uM3 uo) fun v1 uA_2 uP_3 uJ_4 uM1_5 uM2_6 uM3_7 uo_8 => (xb7 (f_X8_giveBack fu uF0 uF1 uF3 uF4 uF5 uF7) fun v10 uF0_11 uF1_12 uF3_13 uF4_14 uF5_15 uF7_16 => (xb1 (f_X8_thrown uF0_11) fun v18 => (if v18 = v1 then (if v1 = 0 then (xk (xin 0 1) (if (uo_8 (0 : Int32).toNatClampNeg) = v10 then (some (uA_2, uP_3, uJ_4, uM1_5, uM2_6, uM3_7, uF0_11, uF1_12, uF3_13, uF4_14, uF5_15, uF7_16, uo_8)) else (none))) else (some (uA_2, uP_3, uJ_4, uM1_5, uM2_6, uM3_7, uF0_11, uF1_12, uF3_13, uF4_14, uF5_15, uF7_16, uo_8))) else (none))))
def f_C_20 (fu : Nat) (a1 a2 : Int32) (uP : sPar) (uD : sDeb) (uF0 : Int32) (uF1 : xF64) (uo : xF64) : Option (Int32 × xF64) :=
  xb2 (f_L_owed fu a1 a2 uP uD uo) fun v1 uo_2 => (xb2 (f_X8_owed fu a1 a2 uF0 uF1) fun v4 uF0_5 => (xb1 (f_X8_thrown uF0_5) fun v7 => (if v7 = v1 then (if v1 = 0 then (xk (xin 0 1) (if (uo_2 (0 : Int32).toNatClampNeg) = v4 then (some (uF0_5, uo_2)) else (none))) else (some (uF0_5, uo_2))) else (none))))
def f_C_21 (fu : Nat) (a1 a2 : Int32) (uD : sDeb) (uM3 : Int32) (uF0 : Int32) (uF1 : xF64) (uo : xF64) : Option (Int32 × Int32 × xF64) :=
  xb3 (f_L_debt a1 a2 uD uM3 uo) fun v1 uM3_2 uo_3 => (xb2 (f_X8_debt a1 a2 uF0 uF1) fun v5 uF0_6 => (xb1 (f_X8_thrown uF0_6) fun v8 => (if v8 = v1 then (if v1 = 0 then (xk (xin 0 1) (if (uo_3 (0 : Int32).toNatClampNeg) = v5 then (some (uM3_2, uF0_6, uo_3)) else (none))) else (some (uM3_2, uF0_6, uo_3))) else (none))))
def f_C_22 (fu : Nat) (a1 a2 a3 : Int32) (uA : Nat → sAcc) (uP : sPar) (uC : sCla) (uD : sDeb) (uJ : sJou) (ur : xF32) (ut : xF32) (ud : Int32) (ug : Int32) (uM1 : Int32) (uM2 : Int32) (uM3 : Int32) (uF0 : Int32) (uF1 : xF64) (uF3 : xF64) (uF4 : xF64) (uF5 : Int32) (uF7 : Int32) (uF11 : Int64) (uo : xF64) : Option ((Nat → sAcc) × sDeb × sJou × Int32 × Int32 × Int32 × Int32 × xF64 × xF64 × xF64 × Int32 × Int32 × Int64 × xF64) :=
  xb8 (f_L_settle fu a1 a2 a3 uA uP uC uD uJ ur ut ud ug uM1 uM2 uM3 uo) fun v1 uA_2 uD_3 uJ_4 uM1_5 uM2_6 uM3_7 uo_8 => (xb8 (f_X8_settle fu a1 a2 a3 uF0 uF1 uF3 uF4 uF5 uF7 uF11) fun v10 uF0_11 uF1_12 uF3_13 uF4_14 uF5_15 uF7_16 uF11_17 => (xb1 (f_X8_thrown uF0_11) fun v19 => (if v19 = v1 then (if v1 = 0 then (xk (xin 0 1) (if (uo_8 (0 : Int32).toNatClampNeg) = v10 then (some (uA_2, uD_3, uJ_4, uM1_5, uM2_6, uM3_7, uF0_11, uF1_12, uF3_13, uF4_14, uF5_15, uF7_16, uF11_17, uo_8)) else (none))) else (some (uA_2, uD_3, uJ_4, uM1_5, uM2_6, uM3_7, uF0_11, uF1_12, uF3_13, uF4_14, uF5_15, uF7_16, uF11_17, uo_8))) else (none))))
def f_C_23 (fu : Nat) (a1 a2 : Int32) (uA : Nat → sAcc) (uP : sPar) (uC : sCla) (uD : sDeb) (uJ : sJou) (ur : xF32) (ut : xF32) (ud : Int32) (ug : Int32) (uM1 : Int32) (uM2 : Int32) (uM3 : Int32) (uF0 : Int32) (uF1 : xF64) (uF3 : xF64) (uF4 : xF64) (uF5 : Int32) (uF7 : Int32) (uo : xF64) : Option ((Nat → sAcc) × sDeb × sJou × Int32 × Int32 × Int32 × Int32 × xF64 × xF64 × xF64 × Int32 × Int32 × xF64) :=
  xb8 (f_L_offset fu a1 a2 uA uP uC uD uJ ur ut ud ug uM1 uM2 uM3 uo) fun v1 uA_2 uD_3 uJ_4 uM1_5 uM2_6 uM3_7 uo_8 => (xb7 (f_X8_offset fu a1 a2 uF0 uF1 uF3 uF4 uF5 uF7) fun v10 uF0_11 uF1_12 uF3_13 uF4_14 uF5_15 uF7_16 => (xb1 (f_X8_thrown uF0_11) fun v18 => (if v18 = v1 then (if v1 = 0 then (xk (xin 0 1) (if (uo_8 (0 : Int32).toNatClampNeg) = v10 then (some (uA_2, uD_3, uJ_4, uM1_5, uM2_6, uM3_7, uF0_11, uF1_12, uF3_13, uF4_14, uF5_15, uF7_16, uo_8)) else (none))) else (some (uA_2, uD_3, uJ_4, uM1_5, uM2_6, uM3_7, uF0_11, uF1_12, uF3_13, uF4_14, uF5_15, uF7_16, uo_8))) else (none))))
def f_C_24 (fu : Nat) (a1 : Int32) (uD : sDeb) (uG0 : Int32) (uG1 : xF32) (uG2 : xF32) (uF0 : Int32) (uF1 : xF64) (uF12 : xF32) (uo : xF64) : Option (Int32 × xF32 × xF32 × Int32 × xF32 × xF64) :=
  xb5 (f_L_ring fu a1 uD uG0 uG1 uG2 uo) fun v1 uG0_2 uG1_3 uG2_4 uo_5 => (xb3 (f_X8_ring fu a1 uF0 uF1 uF12) fun v7 uF0_8 uF12_9 => (xb1 (f_X8_thrown uF0_8) fun v11 => (if v11 = v1 then (if v1 = 0 then (xk (xin 0 1) (if (uo_5 (0 : Int32).toNatClampNeg) = v7.toInt64 then (some (uG0_2, uG1_3, uG2_4, uF0_8, uF12_9, uo_5)) else (none))) else (some (uG0_2, uG1_3, uG2_4, uF0_8, uF12_9, uo_5))) else (none))))
def f_C_25 (fu : Nat) (uA : Nat → sAcc) (uP : sPar) (uC : sCla) (uD : sDeb) (uJ : sJou) (ur : xF32) (ut : xF32) (ud : Int32) (ug : Int32) (uG0 : Int32) (uG1 : xF32) (uG2 : xF32) (uM1 : Int32) (uM2 : Int32) (uF0 : Int32) (uF1 : xF64) (uF3 : xF64) (uF4 : xF64) (uF5 : Int32) (uF12 : xF32) : Option ((Nat → sAcc) × sDeb × sJou × Int32 × xF32 × xF32 × Int32 × Int32 × Int32 × xF64 × xF64 × xF64 × Int32 × xF32) :=
  xb9 (f_X7_clearRings fu uA uP uC uD uJ ur ut ud ug uG0 uG1 uG2 uM1 uM2) fun v1 uA_2 uD_3 uJ_4 uG0_5 uG1_6 uG2_7 uM1_8 uM2_9 => (xb7 (f_X8_clearRings fu uF0 uF1 uF3 uF4 uF5 uF12) fun v11 uF0_12 uF1_13 uF3_14 uF4_15 uF5_16 uF12_17 => (if v1 = v11 then (some (uA_2, uD_3, uJ_4, uG0_5, uG1_6, uG2_7, uM1_8, uM2_9, uF0_12, uF1_13, uF3_14, uF4_15, uF5_16, uF12_17)) else (none)))
def f_C_26 (fu : Nat) (a1 : Int32) (uP : sPar) (uD : sDeb) (uF0 : Int32) (uF1 : xF64) (uo : xF64) : Option (Int32 × xF64) :=
  xb2 (f_L_net fu a1 uP uD uo) fun v1 uo_2 => (xb2 (f_X8_net fu a1 uF0 uF1) fun v4 uF0_5 => (xb1 (f_X8_thrown uF0_5) fun v7 => (if v7 = v1 then (if v1 = 0 then (xk (xin 0 1) (if (uo_2 (0 : Int32).toNatClampNeg) = v4 then (some (uF0_5, uo_2)) else (none))) else (some (uF0_5, uo_2))) else (none))))
def f_C_27 (fu : Nat) (a1 a2 : Int32) (uD : sDeb) (ur : xF32) (ug : Int32) (uF0 : Int32) (uF1 : xF64) (uo : xF64) : Option (Int32 × xF64) :=
  xb2 (f_L_growsTo a1 a2 uD ur ug uo) fun v1 uo_2 => (xb2 (f_X8_growsTo fu a1 a2 uF0 uF1) fun v4 uF0_5 => (xb1 (f_X8_thrown uF0_5) fun v7 => (if v7 = v1 then (if v1 = 0 then (xk (xin 0 1) (if (uo_2 (0 : Int32).toNatClampNeg) = v4.toInt64 then (some (uF0_5, uo_2)) else (none))) else (some (uF0_5, uo_2))) else (none))))
def f_C_28 (fu : Nat) (a1 : Int32) (uA : Nat → sAcc) (uP : sPar) (uC : sCla) (uD : sDeb) (uJ : sJou) (ur : xF32) (ut : xF32) (ud : Int32) (ug : Int32) (uM1 : Int32) (uM2 : Int32) (uM3 : Int32) (uF0 : Int32) (uF1 : xF64) (uF3 : xF64) (uF4 : xF64) (uF5 : Int32) (uF11 : Int64) (uo : xF64) : Option ((Nat → sAcc) × sDeb × Int32 × Int32 × Int32 × Int32 × Int32 × xF64 × xF64 × xF64 × Int32 × Int64 × xF64) :=
  xb8 (f_L_pass fu a1 uA uP uC uD uJ ur ut ud ug uM1 uM2 uM3 uo) fun v1 uA_2 uD_3 ud_4 uM1_5 uM2_6 uM3_7 uo_8 => (xb7 (f_X8_pass fu a1 uF0 uF1 uF3 uF4 uF5 uF11) fun v10 uF0_11 uF1_12 uF3_13 uF4_14 uF5_15 uF11_16 => (xb1 (f_X8_thrown uF0_11) fun v18 => (if v18 = v1 then (if v1 = 0 then (xk (xin 0 1) (if (uo_8 (0 : Int32).toNatClampNeg) = v10 then (some (uA_2, uD_3, ud_4, uM1_5, uM2_6, uM3_7, uF0_11, uF1_12, uF3_13, uF4_14, uF5_15, uF11_16, uo_8)) else (none))) else (some (uA_2, uD_3, ud_4, uM1_5, uM2_6, uM3_7, uF0_11, uF1_12, uF3_13, uF4_14, uF5_15, uF11_16, uo_8))) else (none))))
def f_C_29 (fu : Nat) (uA : Nat → sAcc) (uP : sPar) (uC : sCla) (uD : sDeb) (uJ : sJou) (ur : xF32) (ut : xF32) (ud : Int32) (ug : Int32) (uM1 : Int32) (uM2 : Int32) (uM3 : Int32) (uF0 : Int32) (uF1 : xF64) (uF3 : xF64) (uF4 : xF64) (uF5 : Int32) (uF11 : Int64) (uo : xF64) : Option ((Nat → sAcc) × Int32 × Int32 × Int32 × Int32 × Int32 × xF64 × xF64 × xF64 × Int32 × Int64 × xF64) :=
  xb7 (f_L_goOn uA uP uC uD uJ ur ut ud ug uM1 uM2 uM3 uo) fun v1 uA_2 ug_3 uM1_4 uM2_5 uM3_6 uo_7 => (xb7 (f_X8_goOn fu uF0 uF1 uF3 uF4 uF5 uF11) fun v9 uF0_10 uF1_11 uF3_12 uF4_13 uF5_14 uF11_15 => (xb1 (f_X8_thrown uF0_10) fun v17 => (if v17 = v1 then (if v1 = 0 then (xk (xin 0 1) (if (uo_7 (0 : Int32).toNatClampNeg) = v9.toInt64 then (some (uA_2, ug_3, uM1_4, uM2_5, uM3_6, uF0_10, uF1_11, uF3_12, uF4_13, uF5_14, uF11_15, uo_7)) else (none))) else (some (uA_2, ug_3, uM1_4, uM2_5, uM3_6, uF0_10, uF1_11, uF3_12, uF4_13, uF5_14, uF11_15, uo_7))) else (none))))
def f_C_30 (fu : Nat) (a1 : Int32) (uP : sPar) (uC : sCla) (uD : sDeb) (ud : Int32) (ug : Int32) (uF0 : Int32) (uF1 : xF64) (uo : xF64) : Option (Int32 × xF64) :=
  xb2 (f_L_account fu a1 uP uC uD ud ug uo) fun v1 uo_2 => (xb2 (f_X8_account fu a1 uF0 uF1) fun v4 uF0_5 => (xb1 (f_X8_thrown uF0_5) fun v7 => (if v7 = v1 then (if v1 = 0 then (xk (xin 0 1) (if (uo_2 (0 : Int32).toNatClampNeg) = v4 then (some (uF0_5, uo_2)) else (none))) else (some (uF0_5, uo_2))) else (none))))
def f_C_31 (fu : Nat) (a1 a2 : Int32) (uJ : sJou) (uF0 : Int32) (uF1 : xF64) (uo : xF64) : Option (Int32 × xF64) :=
  if a2 = 0 then (xb2 (f_L_entry a1 0 uJ uo) fun v2 uo_3 => (if a2 = 0 then (xb2 (f_X8_entry a1 0 uF0 uF1) fun v6 uF0_7 => (xb1 (f_X8_thrown uF0_7) fun v9 => (if v9 = v2 then (if v2 = 0 then (xk (xin 0 1) (if (uo_3 (0 : Int32).toNatClampNeg) = v6 then (some (uF0_7, uo_3)) else (none))) else (some (uF0_7, uo_3))) else (none)))) else (xb2 (f_X8_entry a1 1 uF0 uF1) fun v15 uF0_16 => (xb1 (f_X8_thrown uF0_16) fun v18 => (if v18 = v2 then (if v2 = 0 then (xk (xin 0 1) (if (uo_3 (0 : Int32).toNatClampNeg) = v15 then (some (uF0_16, uo_3)) else (none))) else (some (uF0_16, uo_3))) else (none)))))) else (xb2 (f_L_entry a1 1 uJ uo) fun v24 uo_25 => (if a2 = 0 then (xb2 (f_X8_entry a1 0 uF0 uF1) fun v28 uF0_29 => (xb1 (f_X8_thrown uF0_29) fun v31 => (if v31 = v24 then (if v24 = 0 then (xk (xin 0 1) (if (uo_25 (0 : Int32).toNatClampNeg) = v28 then (some (uF0_29, uo_25)) else (none))) else (some (uF0_29, uo_25))) else (none)))) else (xb2 (f_X8_entry a1 1 uF0 uF1) fun v37 uF0_38 => (xb1 (f_X8_thrown uF0_38) fun v40 => (if v40 = v24 then (if v24 = 0 then (xk (xin 0 1) (if (uo_25 (0 : Int32).toNatClampNeg) = v37 then (some (uF0_38, uo_25)) else (none))) else (some (uF0_38, uo_25))) else (none))))))
def f_C_32 (fu : Nat) (a1 : Int32) (uP : sPar) (uC : sCla) (uF0 : Int32) (uF1 : xF64) (uv : Nat → UInt64) : Option (Int32 × (Nat → UInt64)) :=
  xb2 (f_L_quota fu a1 uP uC uv) fun v1 uv_2 => (xb2 (f_X8_quota fu a1 uF0 uF1) fun v4 uF0_5 => (xb1 (f_X8_thrown uF0_5) fun v7 => (if v7 = v1 then (if v1 = 0 then (xk (xin 0 1) (if (Op.cmpValue (FP.dcmp (uv_2 (0 : Int32).toNatClampNeg) v4) .l) = 0 then (some (uF0_5, uv_2)) else (xk (xin 0 1) (xk (xin 0 1) (if (Op.cmpValue (FP.dcmp (uv_2 (0 : Int32).toNatClampNeg) (uv_2 (0 : Int32).toNatClampNeg)) .l) = 0 then (none) else (if (Op.cmpValue (FP.dcmp v4 v4) .l) = 0 then (none) else (some (uF0_5, uv_2)))))))) else (some (uF0_5, uv_2))) else (none))))
def f_C_33 (fu : Nat) (a1 : Int32) (uT0 : Int32) (uT1 : xF32) (uF0 : Int32) (uF8 : xF32) (uF9 : Int32) (uo : xF64) : Option (Int32 × xF32 × Int32 × xF32 × Int32 × xF64) :=
  xb4 (f_L_append (a1.toUInt32 % 65536).toInt32 uT0 uT1 uo) fun v1 uT0_2 uT1_3 uo_4 => (xb4 (f_X8_append (a1.toUInt32 % 65536).toInt32 uF0 uF8 uF9) fun v6 uF0_7 uF8_8 uF9_9 => (xb1 (f_X8_thrown uF0_7) fun v11 => (if v11 = v1 then (if v1 = 0 then (xk (xin 0 1) (if (uo_4 (0 : Int32).toNatClampNeg) = v6.toInt64 then (some (uT0_2, uT1_3, uF0_7, uF8_8, uF9_9, uo_4)) else (none))) else (some (uT0_2, uT1_3, uF0_7, uF8_8, uF9_9, uo_4))) else (none))))
def f_C_34 (fu : Nat) (uA : Nat → sAcc) (uP : sPar) (uC : sCla) (uD : sDeb) (uJ : sJou) (ur : xF32) (ut : xF32) (ud : Int32) (ug : Int32) (uT0 : Int32) (uT1 : xF32) (uT2 : Int32) (uT3 : Int32) (uT4 : Int32) (uT5 : xF32) (uT6 : xF32) (uT7 : xF32) (uT8 : xF32) (uM1 : Int32) (uM2 : Int32) (uM3 : Int32) (uM4 : Int32) (uF0 : Int32) (uF1 : xF64) (uF3 : xF64) (uF4 : xF64) (uF5 : Int32) (uF7 : Int32) (uF8 : xF32) (uF9 : Int32) (uF10 : Int32) (uF11 : Int64) (uF13 : Int32) (uF14 : Int32) (uF15 : Int32) (uF16 : xF32) (uF17 : xF32) (uF18 : Int32) (uo : xF64) : Option ((Nat → sAcc) × sPar × sCla × sDeb × sJou × xF32 × xF32 × Int32 × Int32 × Int32 × Int32 × Int32 × Int32 × xF32 × xF32 × xF32 × xF32 × Int32 × Int32 × Int32 × Int32 × Int32 × xF64 × xF64 × xF64 × Int32 × Int32 × Int32 × Int32 × Int64 × Int32 × Int32 × Int32 × xF32 × xF32 × Int32 × xF64) :=
  xb23 (f_L_read fu uA uP uC uD uJ ur ut ud ug uT0 uT1 uT2 uT3 uT4 uT5 uT6 uT7 uT8 uM1 uM2 uM3 uM4 uo) fun v1 uA_2 uP_3 uC_4 uD_5 uJ_6 ur_7 ut_8 ud_9 ug_10 uT0_11 uT2_12 uT3_13 uT4_14 uT5_15 uT6_16 uT7_17 uT8_18 uM1_19 uM2_20 uM3_21 uM4_22 uo_23 => (xb16 (f_X8_read fu uF0 uF1 uF3 uF4 uF5 uF7 uF8 uF9 uF10 uF11 uF13 uF14 uF15 uF16 uF17 uF18) fun v25 uF0_26 uF1_27 uF3_28 uF4_29 uF5_30 uF7_31 uF9_32 uF10_33 uF11_34 uF13_35 uF14_36 uF15_37 uF16_38 uF17_39 uF18_40 => (xb1 (f_X8_thrown uF0_26) fun v42 => (if v42 = v1 then (if v1 = 0 then (xk (xin 0 1) (if (uo_23 (0 : Int32).toNatClampNeg) = v25.toInt64 then (some (uA_2, uP_3, uC_4, uD_5, uJ_6, ur_7, ut_8, ud_9, ug_10, uT0_11, uT2_12, uT3_13, uT4_14, uT5_15, uT6_16, uT7_17, uT8_18, uM1_19, uM2_20, uM3_21, uM4_22, uF0_26, uF1_27, uF3_28, uF4_29, uF5_30, uF7_31, uF9_32, uF10_33, uF11_34, uF13_35, uF14_36, uF15_37, uF16_38, uF17_39, uF18_40, uo_23)) else (none))) else (some (uA_2, uP_3, uC_4, uD_5, uJ_6, ur_7, ut_8, ud_9, ug_10, uT0_11, uT2_12, uT3_13, uT4_14, uT5_15, uT6_16, uT7_17, uT8_18, uM1_19, uM2_20, uM3_21, uM4_22, uF0_26, uF1_27, uF3_28, uF4_29, uF5_30, uF7_31, uF9_32, uF10_33, uF11_34, uF13_35, uF14_36, uF15_37, uF16_38, uF17_39, uF18_40, uo_23))) else (none))))
def f_C_35 (fu : Nat) (uM4 : Int32) (uF0 : Int32) (uF10 : Int32) (uo : xF64) : Option (Int32 × xF64) :=
  xb2 (f_L_errorPosition uM4 uo) fun v1 uo_2 => (xb2 (f_X8_errorPosition uF0 uF10) fun v4 uF0_5 => (xb1 (f_X8_thrown uF0_5) fun v7 => (if v7 = v1 then (if v1 = 0 then (xk (xin 0 1) (if (uo_2 (0 : Int32).toNatClampNeg) = v4.toInt64 then (some (uF0_5, uo_2)) else (none))) else (some (uF0_5, uo_2))) else (none))))
def f_C_36 (fu : Nat) (uA : Nat → sAcc) (uP : sPar) (uC : sCla) (uD : sDeb) (uJ : sJou) (ur : xF32) (ut : xF32) (ud : Int32) (ug : Int32) (uM1 : Int32) (uM2 : Int32) (uF0 : Int32) (uF1 : xF64) (uF4 : xF64) (uF5 : Int32) (uo : xF64) : Option (sPar × sCla × sDeb × sJou × xF32 × xF32 × Int32 × Int32 × Int32 × Int32 × Int32 × xF64 × Int32 × xF64) :=
  xb12 (f_L_undo uA uP uC uD uJ ur ut ud ug uM1 uM2 uo) fun v1 uP_2 uC_3 uD_4 uJ_5 ur_6 ut_7 ud_8 ug_9 uM1_10 uM2_11 uo_12 => (xb4 (f_X8_undo fu uF0 uF1 uF4 uF5) fun v14 uF0_15 uF1_16 uF5_17 => (xb1 (f_X8_thrown uF0_15) fun v19 => (if v19 = v1 then (if v1 = 0 then (xk (xin 0 1) (if (uo_12 (0 : Int32).toNatClampNeg) = v14.toInt64 then (some (uP_2, uC_3, uD_4, uJ_5, ur_6, ut_7, ud_8, ug_9, uM1_10, uM2_11, uF0_15, uF1_16, uF5_17, uo_12)) else (none))) else (some (uP_2, uC_3, uD_4, uJ_5, ur_6, ut_7, ud_8, ug_9, uM1_10, uM2_11, uF0_15, uF1_16, uF5_17, uo_12))) else (none))))
def f_C_37 (fu : Nat) (uA : Nat → sAcc) (uP : sPar) (uC : sCla) (uD : sDeb) (uJ : sJou) (ur : xF32) (ut : xF32) (ud : Int32) (ug : Int32) (uM0 : Int32) (uF0 : Int32) (uF1 : xF64) (uF2 : xF64) (uF6 : Int32) : Option ((Nat → sAcc) × Int32 × Int32 × xF64 × Int32) :=
  xb3 (f_X7_save uA uP uC uD uJ ur ut ud ug uM0) fun v1 uA_2 uM0_3 => (xb4 (f_X8_save fu uF0 uF1 uF2 uF6) fun v5 uF0_6 uF2_7 uF6_8 => (if v1 = v5 then (some (uA_2, uM0_3, uF0_6, uF2_7, uF6_8)) else (none)))
def f_C_38 (fu : Nat) (uA : Nat → sAcc) (uP : sPar) (uC : sCla) (uD : sDeb) (uJ : sJou) (ur : xF32) (ut : xF32) (ud : Int32) (ug : Int32) (uM0 : Int32) (uM2 : Int32) (uF0 : Int32) (uF1 : xF64) (uF2 : xF64) (uF5 : Int32) (uF6 : Int32) (uo : xF64) : Option (sPar × sCla × sDeb × sJou × xF32 × xF32 × Int32 × Int32 × Int32 × Int32 × xF64 × Int32 × xF64) :=
  xb11 (f_L_restore uA uP uC uD uJ ur ut ud ug uM0 uM2 uo) fun v1 uP_2 uC_3 uD_4 uJ_5 ur_6 ut_7 ud_8 ug_9 uM2_10 uo_11 => (xb4 (f_X8_restore fu uF0 uF1 uF2 uF5 uF6) fun v13 uF0_14 uF1_15 uF5_16 => (xb1 (f_X8_thrown uF0_14) fun v18 => (if v18 = v1 then (if v1 = 0 then (xk (xin 0 1) (if (uo_11 (0 : Int32).toNatClampNeg) = v13.toInt64 then (some (uP_2, uC_3, uD_4, uJ_5, ur_6, ut_7, ud_8, ug_9, uM2_10, uF0_14, uF1_15, uF5_16, uo_11)) else (none))) else (some (uP_2, uC_3, uD_4, uJ_5, ur_6, ut_7, ud_8, ug_9, uM2_10, uF0_14, uF1_15, uF5_16, uo_11))) else (none))))
set_option maxHeartbeats 4000000 in
set_option maxRecDepth 100000 in
theorem q_0 {l : Launch} {κ : xKt} {fu : Nat} {a1 a2 a3 : Int32} {uA : Nat → sAcc} {uP : sPar} {uC : sCla} {uD : sDeb} {uJ : sJou} {ur : xF32} {ut : xF32} {ud : Int32} {ug : Int32} {uT0 : Int32} {uT1 : xF32} {uT2 : Int32} {uT3 : Int32} {uT4 : Int32} {uT5 : xF32} {uT6 : xF32} {uT7 : xF32} {uT8 : xF32} {uG0 : Int32} {uG1 : xF32} {uG2 : xF32} {uM0 : Int32} {uM1 : Int32} {uM2 : Int32} {uM3 : Int32} {uM4 : Int32} {uF0 : Int32} {uF1 : xF64} {uF2 : xF64} {uF3 : xF64} {uF4 : xF64} {uF5 : Int32} {uF6 : Int32} {uF7 : Int32} {uF8 : xF32} {uF9 : Int32} {uF10 : Int32} {uF11 : Int64} {uF12 : xF32} {uF13 : Int32} {uF14 : Int32} {uF15 : Int32} {uF16 : xF32} {uF17 : xF32} {uF18 : Int32} {uo : xF64} {uv : Nat → UInt64} {yP : sPar} {yC : sCla} {yD : sDeb} {yJ : sJou} {yr : xF32} {yt : xF32} {yd : Int32} {yg : Int32} {yM2 : Int32} {yF0 : Int32} {yF1 : xF64} {yF5 : Int32} {A : Nat → Prop} {p : Program} {e : Env} {s : State} {m : MethodId} {args : Array Value} {below : List Frame} {meth : Method} {c : Code} {Q : State → Prop} {b L i kc ks : Nat} {xs : Nat → Int32}
    (hc : xC κ A p s m args meth c cL_law RL 9 (some .boolean)) (hlt : l.stackTraces = false) (hX : va_X b L xs s s.heap) (hbl : b < s.heap.size) (hbA : ¬ A b) (h1 : vp_in ((nI i) + 1) L) (h2 : vp_in ((nI i) + 2) L) (h3 : vp_in ((nI i) + 3) L) (e1 : xs ((nI i) + 1).toNatClampNeg = a1) (e2 : xs ((nI i) + 2).toNatClampNeg = a2) (e3 : xs ((nI i) + 3).toNatClampNeg = a3) (hz0 : kc ≤ room_1.cells ∧ ks ≤ room_1.slots) (hz1 : kc + 1 ≤ room_1.cells ∧ ks + 6 ≤ room_1.slots)
    (hf : f_C_0 fu uP uC uD uJ ur ut ud ug uM2 uF0 uF1 uF5 = some (yP, yC, yD, yJ, yr, yt, yd, yg, yM2, yF0, yF1, yF5))
    (K : ∀ (H : Heap) (locs : List Loc) (ls : Array Slot), xW κ A s (upA uA 0 (yP, yC, yD, yJ, yr, yt, yd, yg), (uT0, uT1, uT2, uT3, uT4, uT5, uT6, uT7, uT8), (uG0, uG1, uG2), (uM0, uM1, yM2, uM3, uM4), (yF0, yF1, uF2, uF3, uF4, yF5, uF6, uF7, uF8, uF9, uF10, uF11, uF12, uF13, uF14, uF15, uF16, uF17, uF18), uo, uv) H locs → lv_has ls 9 [(0, .ref b), (1, .ref (xAd κ 234)), (2, .ref (xAd κ 245)), (3, .ref (xAd κ 254)), (4, .ref (xAd κ 255)), (5, .int (nI i))] → W p l e room_1 s m args below meth c H locs (kc + 1) (ks + 6) Q (F0 m 2367 ls [])) :
    ∀ (H : Heap) (locs : List Loc) (ls : Array Slot), xW κ A s (upA uA 0 (uP, uC, uD, uJ, ur, ut, ud, ug), (uT0, uT1, uT2, uT3, uT4, uT5, uT6, uT7, uT8), (uG0, uG1, uG2), (uM0, uM1, uM2, uM3, uM4), (uF0, uF1, uF2, uF3, uF4, uF5, uF6, uF7, uF8, uF9, uF10, uF11, uF12, uF13, uF14, uF15, uF16, uF17, uF18), uo, uv) H locs → lv_has ls 9 [(0, .ref b), (1, .ref (xAd κ 234)), (2, .ref (xAd κ 245)), (3, .ref (xAd κ 254)), (4, .ref (xAd κ 255)), (5, .int (nI i))] → W p l e room_1 s m args below meth c H locs kc ks Q (F0 m 216 ls []) := by
  have hx := hc.1.1
  have hb := hc.1.2.1
  intro H locs ls hw hl
  unfold f_C_0 at hf
  refine lv_aload_n hx hb dL_law_216 rfl (lv_at hl 1 rfl) ?_
  obtain ⟨v1, uP_2, uC_3, uD_4, uJ_5, ur_6, ut_7, ud_8, ug_9, uM2_10, h11, hf⟩ := xb10_of hf
  refine x_calliV (As := []) (rest := []) (σ' := (upA uA 0 (uP_2, uC_3, uD_4, uJ_5, ur_6, ut_7, ud_8, ug_9), (uT0, uT1, uT2, uT3, uT4, uT5, uT6, uT7, uT8), (uG0, uG1, uG2), (uM0, uM1, uM2_10, uM3, uM4), (uF0, uF1, uF2, uF3, uF4, uF5, uF6, uF7, uF8, uF9, uF10, uF11, uF12, uF13, uF14, uF15, uF16, uF17, uF18), uo, uv)) hc hw hl.1 (m_X7_clear h11) kL_138 co_234 rfl rfl ⟨rfl, rfl⟩ ⟨Nat.le_of_ble_eq_true rfl, Nat.le_of_ble_eq_true rfl⟩ hz0 (Nat.le_of_ble_eq_true rfl) dL_law_217 (fun H locs hw => ?_)
  refine lv_aload_n hx hb dL_law_220 rfl (lv_at hl 2 rfl) ?_
  obtain ⟨v12, uF0_13, uF1_14, uF5_15, h16, hf⟩ := xb4_of hf
  refine x_calliV (As := []) (rest := [.int v1]) (σ' := (upA uA 0 (uP_2, uC_3, uD_4, uJ_5, ur_6, ut_7, ud_8, ug_9), (uT0, uT1, uT2, uT3, uT4, uT5, uT6, uT7, uT8), (uG0, uG1, uG2), (uM0, uM1, uM2_10, uM3, uM4), (uF0_13, uF1_14, uF2, uF3, uF4, uF5_15, uF6, uF7, uF8, uF9, uF10, uF11, uF12, uF13, uF14, uF15, uF16, uF17, uF18), uo, uv)) hc hw hl.1 (m_X8_clear h16) kL_141 co_245 rfl rfl ⟨rfl, rfl⟩ ⟨Nat.le_of_ble_eq_true rfl, Nat.le_of_ble_eq_true rfl⟩ hz0 (Nat.le_of_ble_eq_true rfl) dL_law_221 (fun H locs hw => ?_)
  refine lv_icmp_eq (tgt := 2367) hx hb dL_law_224 (by decide) (fun c17 => ?_) (fun c17 => ?_)
  · have hf := xif_t c17 hf
    cases hf
    exact W.widen (Nat.le_succ _) (Nat.le_add_right _ _) (K _ _ _ hw (lv_sub hl [0, 1, 2, 3, 4, 5] rfl))
  · have hf := xif_f c17 hf
    refine lv_iconst (v := 0) hx hb dL_law_227 (by decide) ?_
    cases hf
set_option maxHeartbeats 4000000 in
set_option maxRecDepth 100000 in
theorem q_1 {l : Launch} {κ : xKt} {fu : Nat} {a1 a2 a3 : Int32} {uA : Nat → sAcc} {uP : sPar} {uC : sCla} {uD : sDeb} {uJ : sJou} {ur : xF32} {ut : xF32} {ud : Int32} {ug : Int32} {uT0 : Int32} {uT1 : xF32} {uT2 : Int32} {uT3 : Int32} {uT4 : Int32} {uT5 : xF32} {uT6 : xF32} {uT7 : xF32} {uT8 : xF32} {uG0 : Int32} {uG1 : xF32} {uG2 : xF32} {uM0 : Int32} {uM1 : Int32} {uM2 : Int32} {uM3 : Int32} {uM4 : Int32} {uF0 : Int32} {uF1 : xF64} {uF2 : xF64} {uF3 : xF64} {uF4 : xF64} {uF5 : Int32} {uF6 : Int32} {uF7 : Int32} {uF8 : xF32} {uF9 : Int32} {uF10 : Int32} {uF11 : Int64} {uF12 : xF32} {uF13 : Int32} {uF14 : Int32} {uF15 : Int32} {uF16 : xF32} {uF17 : xF32} {uF18 : Int32} {uo : xF64} {uv : Nat → UInt64} {yA : Nat → sAcc} {yP : sPar} {yM1 : Int32} {yM2 : Int32} {yF0 : Int32} {yF1 : xF64} {yF3 : xF64} {yF4 : xF64} {yF5 : Int32} {yo : xF64} {A : Nat → Prop} {p : Program} {e : Env} {s : State} {m : MethodId} {args : Array Value} {below : List Frame} {meth : Method} {c : Code} {Q : State → Prop} {b L i kc ks : Nat} {xs : Nat → Int32}
    (hc : xC κ A p s m args meth c cL_law RL 9 (some .boolean)) (hlt : l.stackTraces = false) (hX : va_X b L xs s s.heap) (hbl : b < s.heap.size) (hbA : ¬ A b) (h1 : vp_in ((nI i) + 1) L) (h2 : vp_in ((nI i) + 2) L) (h3 : vp_in ((nI i) + 3) L) (e1 : xs ((nI i) + 1).toNatClampNeg = a1) (e2 : xs ((nI i) + 2).toNatClampNeg = a2) (e3 : xs ((nI i) + 3).toNatClampNeg = a3) (hz0 : kc ≤ room_1.cells ∧ ks ≤ room_1.slots) (hz1 : kc + 1 ≤ room_1.cells ∧ ks + 6 ≤ room_1.slots)
    (hf : f_C_1 fu a1 a2 uA uP uC uD uJ ur ut ud ug uM1 uM2 uF0 uF1 uF3 uF4 uF5 uo = some (yA, yP, yM1, yM2, yF0, yF1, yF3, yF4, yF5, yo))
    (K : ∀ (H : Heap) (locs : List Loc) (ls : Array Slot), xW κ A s (upA yA 0 (yP, uC, uD, uJ, ur, ut, ud, ug), (uT0, uT1, uT2, uT3, uT4, uT5, uT6, uT7, uT8), (uG0, uG1, uG2), (uM0, yM1, yM2, uM3, uM4), (yF0, yF1, uF2, yF3, yF4, yF5, uF6, uF7, uF8, uF9, uF10, uF11, uF12, uF13, uF14, uF15, uF16, uF17, uF18), yo, uv) H locs → lv_has ls 9 [(0, .ref b), (1, .ref (xAd κ 234)), (2, .ref (xAd κ 245)), (3, .ref (xAd κ 254)), (4, .ref (xAd κ 255)), (5, .int (nI i))] → W p l e room_1 s m args below meth c H locs (kc + 1) (ks + 6) Q (F0 m 2367 ls [])) :
    ∀ (H : Heap) (locs : List Loc) (ls : Array Slot), xW κ A s (upA uA 0 (uP, uC, uD, uJ, ur, ut, ud, ug), (uT0, uT1, uT2, uT3, uT4, uT5, uT6, uT7, uT8), (uG0, uG1, uG2), (uM0, uM1, uM2, uM3, uM4), (uF0, uF1, uF2, uF3, uF4, uF5, uF6, uF7, uF8, uF9, uF10, uF11, uF12, uF13, uF14, uF15, uF16, uF17, uF18), uo, uv) H locs → lv_has ls 9 [(0, .ref b), (1, .ref (xAd κ 234)), (2, .ref (xAd κ 245)), (3, .ref (xAd κ 254)), (4, .ref (xAd κ 255)), (5, .int (nI i))] → W p l e room_1 s m args below meth c H locs kc ks Q (F0 m 229 ls []) := by
  have hx := hc.1.1
  have hb := hc.1.2.1
  intro H locs ls hw hl
  unfold f_C_1 at hf
  refine lv_aload_n hx hb dL_law_229 rfl (lv_at hl 1 rfl) ?_
  refine lv_aload_n hx hb dL_law_230 rfl (lv_at hl 0 rfl) ?_
  refine lv_iload hx hb dL_law_231 (lv_at hl 5 rfl) ?_
  refine lv_iconst (v := 1) hx hb dL_law_233 (by decide) ?_
  refine lv_iadd hx hb dL_law_234 ?_
  refine va_sld hx hb hX hbl hbA hw.2 h1 dL_law_235 ?_
  rw [e1]
  refine lv_aload_n hx hb dL_law_236 rfl (lv_at hl 0 rfl) ?_
  refine lv_iload hx hb dL_law_237 (lv_at hl 5 rfl) ?_
  refine lv_iconst (v := 2) hx hb dL_law_239 (by decide) ?_
  refine lv_iadd hx hb dL_law_240 ?_
  refine va_sld hx hb hX hbl hbA hw.2 h2 dL_law_241 ?_
  rw [e2]
  refine lv_aload_n hx hb dL_law_242 rfl (lv_at hl 3 rfl) ?_
  obtain ⟨v1, uA_2, uP_3, uM1_4, uM2_5, uo_6, h7, hf⟩ := xb6_of hf
  refine x_hcalliS (As := [.ref (xAd κ 234), .int a1, .int a2, .ref (xAd κ 254)]) (rest := []) (σ' := (upA uA_2 0 (uP_3, uC, uD, uJ, ur, ut, ud, ug), (uT0, uT1, uT2, uT3, uT4, uT5, uT6, uT7, uT8), (uG0, uG1, uG2), (uM0, uM1_4, uM2_5, uM3, uM4), (uF0, uF1, uF2, uF3, uF4, uF5, uF6, uF7, uF8, uF9, uF10, uF11, uF12, uF13, uF14, uF15, uF16, uF17, uF18), uo_6, uv)) hc hw hl.1 hlt (m_L_addParty h7) kL_142 rfl rfl ⟨rfl, rfl⟩ ⟨Nat.le_of_ble_eq_true rfl, Nat.le_of_ble_eq_true rfl⟩ hz1 (Nat.le_of_ble_eq_true rfl) dL_law_243 (fun H locs hw => ?_)
  refine lv_istore (lv' := [(6, .int v1), (0, .ref b), (1, .ref (xAd κ 234)), (2, .ref (xAd κ 245)), (3, .ref (xAd κ 254)), (4, .ref (xAd κ 255)), (5, .int (nI i))]) hx hb dL_law_246 hl (by decide) rfl (fun ls hl => ?_)
  refine lv_aload_n hx hb dL_law_248 rfl (lv_at hl 3 rfl) ?_
  refine lv_aload_n hx hb dL_law_249 rfl (lv_at hl 1 rfl) ?_
  refine lv_iload hx hb dL_law_250 (lv_at hl 6 rfl) ?_
  refine lv_iconst (v := 1) hx hb dL_law_252 (by decide) ?_
  refine lv_iadd hx hb dL_law_253 ?_
  refine va_sld hx hb hX hbl hbA hw.2 h1 dL_law_254 ?_
  rw [e1]
  refine lv_aload_n hx hb dL_law_255 rfl (lv_at hl 1 rfl) ?_
  refine lv_iload hx hb dL_law_256 (lv_at hl 6 rfl) ?_
  refine lv_iconst (v := 2) hx hb dL_law_258 (by decide) ?_
  refine lv_iadd hx hb dL_law_259 ?_
  refine va_sld hx hb hX hbl hbA hw.2 h2 dL_law_260 ?_
  rw [e2]
  obtain ⟨v8, uF0_9, uF1_10, uF3_11, uF4_12, uF5_13, h14, hf⟩ := xb6_of hf
  refine x_calliV (As := [.int a1, .int a2]) (rest := []) (σ' := (upA uA_2 0 (uP_3, uC, uD, uJ, ur, ut, ud, ug), (uT0, uT1, uT2, uT3, uT4, uT5, uT6, uT7, uT8), (uG0, uG1, uG2), (uM0, uM1_4, uM2_5, uM3, uM4), (uF0_9, uF1_10, uF2, uF3_11, uF4_12, uF5_13, uF6, uF7, uF8, uF9, uF10, uF11, uF12, uF13, uF14, uF15, uF16, uF17, uF18), uo_6, uv)) hc hw hl.1 (m_X8_addParty h14) kL_147 co_245 rfl rfl ⟨rfl, rfl⟩ ⟨Nat.le_of_ble_eq_true rfl, Nat.le_of_ble_eq_true rfl⟩ hz1 (Nat.le_of_ble_eq_true rfl) dL_law_261 (fun H locs hw => ?_)
  refine lv_istore (lv' := [(7, .int v8), (6, .int v1), (0, .ref b), (1, .ref (xAd κ 234)), (2, .ref (xAd κ 245)), (3, .ref (xAd κ 254)), (4, .ref (xAd κ 255)), (5, .int (nI i))]) hx hb dL_law_264 hl (by decide) rfl (fun ls hl => ?_)
  refine lv_aload_n hx hb dL_law_266 rfl (lv_at hl 4 rfl) ?_
  obtain ⟨v15, h16, hf⟩ := xb1_of hf
  refine x_calliV (As := []) (rest := []) (σ' := (upA uA_2 0 (uP_3, uC, uD, uJ, ur, ut, ud, ug), (uT0, uT1, uT2, uT3, uT4, uT5, uT6, uT7, uT8), (uG0, uG1, uG2), (uM0, uM1_4, uM2_5, uM3, uM4), (uF0_9, uF1_10, uF2, uF3_11, uF4_12, uF5_13, uF6, uF7, uF8, uF9, uF10, uF11, uF12, uF13, uF14, uF15, uF16, uF17, uF18), uo_6, uv)) hc hw hl.1 (m_X8_thrown h16) kL_148 co_245 rfl rfl ⟨rfl, rfl⟩ ⟨Nat.le_of_ble_eq_true rfl, Nat.le_of_ble_eq_true rfl⟩ hz1 (Nat.le_of_ble_eq_true rfl) dL_law_267 (fun H locs hw => ?_)
  refine lv_iload hx hb dL_law_270 (lv_at hl 1 rfl) ?_
  refine lv_icmp_eq (tgt := 277) hx hb dL_law_272 (by decide) (fun c17 => ?_) (fun c17 => ?_)
  · have hf := xif_t c17 hf
    refine lv_iload hx hb dL_law_277 (lv_at hl 1 rfl) ?_
    refine lv_if_ne (tgt := 294) hx hb dL_law_279 (by decide) (fun c18 => ?_) (fun c18 => ?_)
    · have hf := xif_f c18 hf
      refine lv_goto (tgt := 2367) hx hb dL_law_294 (by decide) ?_
      cases hf
      exact K _ _ _ hw (lv_sub hl [2, 3, 4, 5, 6, 7] rfl)
    · have hf := xif_t c18 hf
      refine lv_aload_n hx hb dL_law_282 rfl (lv_at hl 5 rfl) ?_
      refine lv_iconst (v := 0) hx hb dL_law_283 (by decide) ?_
      obtain ⟨k19, hf⟩ := xk_of hf
      refine x_lald (n := 1) (f := uo_6) hc hw co_254 k19 dL_law_284 ?_
      refine lv_iload hx hb dL_law_285 (lv_at hl 0 rfl) ?_
      refine lv_i2l (v := v8.toInt64) hx hb dL_law_287 rfl ?_
      refine x_lcmp_eq (tgt := 294) hx hb dL_law_288 dL_law_289 (by decide) (fun c20 => ?_) (fun c20 => ?_)
      · have hf := xif_t c20 hf
        refine lv_goto (tgt := 2367) hx hb dL_law_294 (by decide) ?_
        cases hf
        exact K _ _ _ hw (lv_sub hl [2, 3, 4, 5, 6, 7] rfl)
      · have hf := xif_f c20 hf
        refine lv_iconst (v := 0) hx hb dL_law_292 (by decide) ?_
        cases hf
  · have hf := xif_f c17 hf
    refine lv_iconst (v := 0) hx hb dL_law_275 (by decide) ?_
    cases hf
set_option maxHeartbeats 4000000 in
set_option maxRecDepth 100000 in
theorem q_2 {l : Launch} {κ : xKt} {fu : Nat} {a1 a2 a3 : Int32} {uA : Nat → sAcc} {uP : sPar} {uC : sCla} {uD : sDeb} {uJ : sJou} {ur : xF32} {ut : xF32} {ud : Int32} {ug : Int32} {uT0 : Int32} {uT1 : xF32} {uT2 : Int32} {uT3 : Int32} {uT4 : Int32} {uT5 : xF32} {uT6 : xF32} {uT7 : xF32} {uT8 : xF32} {uG0 : Int32} {uG1 : xF32} {uG2 : xF32} {uM0 : Int32} {uM1 : Int32} {uM2 : Int32} {uM3 : Int32} {uM4 : Int32} {uF0 : Int32} {uF1 : xF64} {uF2 : xF64} {uF3 : xF64} {uF4 : xF64} {uF5 : Int32} {uF6 : Int32} {uF7 : Int32} {uF8 : xF32} {uF9 : Int32} {uF10 : Int32} {uF11 : Int64} {uF12 : xF32} {uF13 : Int32} {uF14 : Int32} {uF15 : Int32} {uF16 : xF32} {uF17 : xF32} {uF18 : Int32} {uo : xF64} {uv : Nat → UInt64} {yA : Nat → sAcc} {yr : xF32} {yM1 : Int32} {yM2 : Int32} {yM3 : Int32} {yF0 : Int32} {yF1 : xF64} {yF3 : xF64} {yF4 : xF64} {yF5 : Int32} {yo : xF64} {A : Nat → Prop} {p : Program} {e : Env} {s : State} {m : MethodId} {args : Array Value} {below : List Frame} {meth : Method} {c : Code} {Q : State → Prop} {b L i kc ks : Nat} {xs : Nat → Int32}
    (hc : xC κ A p s m args meth c cL_law RL 9 (some .boolean)) (hlt : l.stackTraces = false) (hX : va_X b L xs s s.heap) (hbl : b < s.heap.size) (hbA : ¬ A b) (h1 : vp_in ((nI i) + 1) L) (h2 : vp_in ((nI i) + 2) L) (h3 : vp_in ((nI i) + 3) L) (e1 : xs ((nI i) + 1).toNatClampNeg = a1) (e2 : xs ((nI i) + 2).toNatClampNeg = a2) (e3 : xs ((nI i) + 3).toNatClampNeg = a3) (hz0 : kc ≤ room_1.cells ∧ ks ≤ room_1.slots) (hz1 : kc + 1 ≤ room_1.cells ∧ ks + 6 ≤ room_1.slots)
    (hf : f_C_2 fu a1 a2 uA uP uC uD uJ ur ut ud ug uM1 uM2 uM3 uF0 uF1 uF3 uF4 uF5 uo = some (yA, yr, yM1, yM2, yM3, yF0, yF1, yF3, yF4, yF5, yo))
    (K : ∀ (H : Heap) (locs : List Loc) (ls : Array Slot), xW κ A s (upA yA 0 (uP, uC, uD, uJ, yr, ut, ud, ug), (uT0, uT1, uT2, uT3, uT4, uT5, uT6, uT7, uT8), (uG0, uG1, uG2), (uM0, yM1, yM2, yM3, uM4), (yF0, yF1, uF2, yF3, yF4, yF5, uF6, uF7, uF8, uF9, uF10, uF11, uF12, uF13, uF14, uF15, uF16, uF17, uF18), yo, uv) H locs → lv_has ls 9 [(0, .ref b), (1, .ref (xAd κ 234)), (2, .ref (xAd κ 245)), (3, .ref (xAd κ 254)), (4, .ref (xAd κ 255)), (5, .int (nI i))] → W p l e room_1 s m args below meth c H locs (kc + 1) (ks + 6) Q (F0 m 2367 ls [])) :
    ∀ (H : Heap) (locs : List Loc) (ls : Array Slot), xW κ A s (upA uA 0 (uP, uC, uD, uJ, ur, ut, ud, ug), (uT0, uT1, uT2, uT3, uT4, uT5, uT6, uT7, uT8), (uG0, uG1, uG2), (uM0, uM1, uM2, uM3, uM4), (uF0, uF1, uF2, uF3, uF4, uF5, uF6, uF7, uF8, uF9, uF10, uF11, uF12, uF13, uF14, uF15, uF16, uF17, uF18), uo, uv) H locs → lv_has ls 9 [(0, .ref b), (1, .ref (xAd κ 234)), (2, .ref (xAd κ 245)), (3, .ref (xAd κ 254)), (4, .ref (xAd κ 255)), (5, .int (nI i))] → W p l e room_1 s m args below meth c H locs kc ks Q (F0 m 297 ls []) := by
  have hx := hc.1.1
  have hb := hc.1.2.1
  intro H locs ls hw hl
  unfold f_C_2 at hf
  refine lv_aload_n hx hb dL_law_297 rfl (lv_at hl 1 rfl) ?_
  refine lv_aload_n hx hb dL_law_298 rfl (lv_at hl 0 rfl) ?_
  refine lv_iload hx hb dL_law_299 (lv_at hl 5 rfl) ?_
  refine lv_iconst (v := 1) hx hb dL_law_301 (by decide) ?_
  refine lv_iadd hx hb dL_law_302 ?_
  refine va_sld hx hb hX hbl hbA hw.2 h1 dL_law_303 ?_
  rw [e1]
  refine lv_aload_n hx hb dL_law_304 rfl (lv_at hl 0 rfl) ?_
  refine lv_iload hx hb dL_law_305 (lv_at hl 5 rfl) ?_
  refine lv_iconst (v := 2) hx hb dL_law_307 (by decide) ?_
  refine lv_iadd hx hb dL_law_308 ?_
  refine va_sld hx hb hX hbl hbA hw.2 h2 dL_law_309 ?_
  rw [e2]
  refine lv_aload_n hx hb dL_law_310 rfl (lv_at hl 3 rfl) ?_
  obtain ⟨v1, uA_2, ur_3, uM1_4, uM2_5, uM3_6, uo_7, h8, hf⟩ := xb7_of hf
  refine x_hcalliS (As := [.ref (xAd κ 234), .int a1, .int a2, .ref (xAd κ 254)]) (rest := []) (σ' := (upA uA_2 0 (uP, uC, uD, uJ, ur_3, ut, ud, ug), (uT0, uT1, uT2, uT3, uT4, uT5, uT6, uT7, uT8), (uG0, uG1, uG2), (uM0, uM1_4, uM2_5, uM3_6, uM4), (uF0, uF1, uF2, uF3, uF4, uF5, uF6, uF7, uF8, uF9, uF10, uF11, uF12, uF13, uF14, uF15, uF16, uF17, uF18), uo_7, uv)) hc hw hl.1 hlt (m_L_setRate h8) kL_151 rfl rfl ⟨rfl, rfl⟩ ⟨Nat.le_of_ble_eq_true rfl, Nat.le_of_ble_eq_true rfl⟩ hz1 (Nat.le_of_ble_eq_true rfl) dL_law_311 (fun H locs hw => ?_)
  refine lv_istore (lv' := [(6, .int v1), (0, .ref b), (1, .ref (xAd κ 234)), (2, .ref (xAd κ 245)), (3, .ref (xAd κ 254)), (4, .ref (xAd κ 255)), (5, .int (nI i))]) hx hb dL_law_314 hl (by decide) rfl (fun ls hl => ?_)
  refine lv_aload_n hx hb dL_law_316 rfl (lv_at hl 3 rfl) ?_
  refine lv_aload_n hx hb dL_law_317 rfl (lv_at hl 1 rfl) ?_
  refine lv_iload hx hb dL_law_318 (lv_at hl 6 rfl) ?_
  refine lv_iconst (v := 1) hx hb dL_law_320 (by decide) ?_
  refine lv_iadd hx hb dL_law_321 ?_
  refine va_sld hx hb hX hbl hbA hw.2 h1 dL_law_322 ?_
  rw [e1]
  refine lv_aload_n hx hb dL_law_323 rfl (lv_at hl 1 rfl) ?_
  refine lv_iload hx hb dL_law_324 (lv_at hl 6 rfl) ?_
  refine lv_iconst (v := 2) hx hb dL_law_326 (by decide) ?_
  refine lv_iadd hx hb dL_law_327 ?_
  refine va_sld hx hb hX hbl hbA hw.2 h2 dL_law_328 ?_
  rw [e2]
  obtain ⟨v9, uF0_10, uF1_11, uF3_12, uF4_13, uF5_14, h15, hf⟩ := xb6_of hf
  refine x_calliV (As := [.int a1, .int a2]) (rest := []) (σ' := (upA uA_2 0 (uP, uC, uD, uJ, ur_3, ut, ud, ug), (uT0, uT1, uT2, uT3, uT4, uT5, uT6, uT7, uT8), (uG0, uG1, uG2), (uM0, uM1_4, uM2_5, uM3_6, uM4), (uF0_10, uF1_11, uF2, uF3_12, uF4_13, uF5_14, uF6, uF7, uF8, uF9, uF10, uF11, uF12, uF13, uF14, uF15, uF16, uF17, uF18), uo_7, uv)) hc hw hl.1 (m_X8_setRate h15) kL_153 co_245 rfl rfl ⟨rfl, rfl⟩ ⟨Nat.le_of_ble_eq_true rfl, Nat.le_of_ble_eq_true rfl⟩ hz1 (Nat.le_of_ble_eq_true rfl) dL_law_329 (fun H locs hw => ?_)
  refine lv_istore (lv' := [(7, .int v9), (6, .int v1), (0, .ref b), (1, .ref (xAd κ 234)), (2, .ref (xAd κ 245)), (3, .ref (xAd κ 254)), (4, .ref (xAd κ 255)), (5, .int (nI i))]) hx hb dL_law_332 hl (by decide) rfl (fun ls hl => ?_)
  refine lv_aload_n hx hb dL_law_334 rfl (lv_at hl 4 rfl) ?_
  obtain ⟨v16, h17, hf⟩ := xb1_of hf
  refine x_calliV (As := []) (rest := []) (σ' := (upA uA_2 0 (uP, uC, uD, uJ, ur_3, ut, ud, ug), (uT0, uT1, uT2, uT3, uT4, uT5, uT6, uT7, uT8), (uG0, uG1, uG2), (uM0, uM1_4, uM2_5, uM3_6, uM4), (uF0_10, uF1_11, uF2, uF3_12, uF4_13, uF5_14, uF6, uF7, uF8, uF9, uF10, uF11, uF12, uF13, uF14, uF15, uF16, uF17, uF18), uo_7, uv)) hc hw hl.1 (m_X8_thrown h17) kL_148 co_245 rfl rfl ⟨rfl, rfl⟩ ⟨Nat.le_of_ble_eq_true rfl, Nat.le_of_ble_eq_true rfl⟩ hz1 (Nat.le_of_ble_eq_true rfl) dL_law_335 (fun H locs hw => ?_)
  refine lv_iload hx hb dL_law_338 (lv_at hl 1 rfl) ?_
  refine lv_icmp_eq (tgt := 345) hx hb dL_law_340 (by decide) (fun c18 => ?_) (fun c18 => ?_)
  · have hf := xif_t c18 hf
    refine lv_iload hx hb dL_law_345 (lv_at hl 1 rfl) ?_
    refine lv_if_ne (tgt := 362) hx hb dL_law_347 (by decide) (fun c19 => ?_) (fun c19 => ?_)
    · have hf := xif_f c19 hf
      refine lv_goto (tgt := 2367) hx hb dL_law_362 (by decide) ?_
      cases hf
      exact K _ _ _ hw (lv_sub hl [2, 3, 4, 5, 6, 7] rfl)
    · have hf := xif_t c19 hf
      refine lv_aload_n hx hb dL_law_350 rfl (lv_at hl 5 rfl) ?_
      refine lv_iconst (v := 0) hx hb dL_law_351 (by decide) ?_
      obtain ⟨k20, hf⟩ := xk_of hf
      refine x_lald (n := 1) (f := uo_7) hc hw co_254 k20 dL_law_352 ?_
      refine lv_iload hx hb dL_law_353 (lv_at hl 0 rfl) ?_
      refine lv_i2l (v := v9.toInt64) hx hb dL_law_355 rfl ?_
      refine x_lcmp_eq (tgt := 362) hx hb dL_law_356 dL_law_357 (by decide) (fun c21 => ?_) (fun c21 => ?_)
      · have hf := xif_t c21 hf
        refine lv_goto (tgt := 2367) hx hb dL_law_362 (by decide) ?_
        cases hf
        exact K _ _ _ hw (lv_sub hl [2, 3, 4, 5, 6, 7] rfl)
      · have hf := xif_f c21 hf
        refine lv_iconst (v := 0) hx hb dL_law_360 (by decide) ?_
        cases hf
  · have hf := xif_f c18 hf
    refine lv_iconst (v := 0) hx hb dL_law_343 (by decide) ?_
    cases hf
set_option maxHeartbeats 4000000 in
set_option maxRecDepth 100000 in
theorem q_3 {l : Launch} {κ : xKt} {fu : Nat} {a1 a2 a3 : Int32} {uA : Nat → sAcc} {uP : sPar} {uC : sCla} {uD : sDeb} {uJ : sJou} {ur : xF32} {ut : xF32} {ud : Int32} {ug : Int32} {uT0 : Int32} {uT1 : xF32} {uT2 : Int32} {uT3 : Int32} {uT4 : Int32} {uT5 : xF32} {uT6 : xF32} {uT7 : xF32} {uT8 : xF32} {uG0 : Int32} {uG1 : xF32} {uG2 : xF32} {uM0 : Int32} {uM1 : Int32} {uM2 : Int32} {uM3 : Int32} {uM4 : Int32} {uF0 : Int32} {uF1 : xF64} {uF2 : xF64} {uF3 : xF64} {uF4 : xF64} {uF5 : Int32} {uF6 : Int32} {uF7 : Int32} {uF8 : xF32} {uF9 : Int32} {uF10 : Int32} {uF11 : Int64} {uF12 : xF32} {uF13 : Int32} {uF14 : Int32} {uF15 : Int32} {uF16 : xF32} {uF17 : xF32} {uF18 : Int32} {uo : xF64} {uv : Nat → UInt64} {yA : Nat → sAcc} {yt : xF32} {yM1 : Int32} {yM2 : Int32} {yM3 : Int32} {yF0 : Int32} {yF1 : xF64} {yF3 : xF64} {yF4 : xF64} {yF5 : Int32} {yo : xF64} {A : Nat → Prop} {p : Program} {e : Env} {s : State} {m : MethodId} {args : Array Value} {below : List Frame} {meth : Method} {c : Code} {Q : State → Prop} {b L i kc ks : Nat} {xs : Nat → Int32}
    (hc : xC κ A p s m args meth c cL_law RL 9 (some .boolean)) (hlt : l.stackTraces = false) (hX : va_X b L xs s s.heap) (hbl : b < s.heap.size) (hbA : ¬ A b) (h1 : vp_in ((nI i) + 1) L) (h2 : vp_in ((nI i) + 2) L) (h3 : vp_in ((nI i) + 3) L) (e1 : xs ((nI i) + 1).toNatClampNeg = a1) (e2 : xs ((nI i) + 2).toNatClampNeg = a2) (e3 : xs ((nI i) + 3).toNatClampNeg = a3) (hz0 : kc ≤ room_1.cells ∧ ks ≤ room_1.slots) (hz1 : kc + 1 ≤ room_1.cells ∧ ks + 6 ≤ room_1.slots)
    (hf : f_C_3 fu a1 a2 uA uP uC uD uJ ur ut ud ug uM1 uM2 uM3 uF0 uF1 uF3 uF4 uF5 uo = some (yA, yt, yM1, yM2, yM3, yF0, yF1, yF3, yF4, yF5, yo))
    (K : ∀ (H : Heap) (locs : List Loc) (ls : Array Slot), xW κ A s (upA yA 0 (uP, uC, uD, uJ, ur, yt, ud, ug), (uT0, uT1, uT2, uT3, uT4, uT5, uT6, uT7, uT8), (uG0, uG1, uG2), (uM0, yM1, yM2, yM3, uM4), (yF0, yF1, uF2, yF3, yF4, yF5, uF6, uF7, uF8, uF9, uF10, uF11, uF12, uF13, uF14, uF15, uF16, uF17, uF18), yo, uv) H locs → lv_has ls 9 [(0, .ref b), (1, .ref (xAd κ 234)), (2, .ref (xAd κ 245)), (3, .ref (xAd κ 254)), (4, .ref (xAd κ 255)), (5, .int (nI i))] → W p l e room_1 s m args below meth c H locs (kc + 1) (ks + 6) Q (F0 m 2367 ls [])) :
    ∀ (H : Heap) (locs : List Loc) (ls : Array Slot), xW κ A s (upA uA 0 (uP, uC, uD, uJ, ur, ut, ud, ug), (uT0, uT1, uT2, uT3, uT4, uT5, uT6, uT7, uT8), (uG0, uG1, uG2), (uM0, uM1, uM2, uM3, uM4), (uF0, uF1, uF2, uF3, uF4, uF5, uF6, uF7, uF8, uF9, uF10, uF11, uF12, uF13, uF14, uF15, uF16, uF17, uF18), uo, uv) H locs → lv_has ls 9 [(0, .ref b), (1, .ref (xAd κ 234)), (2, .ref (xAd κ 245)), (3, .ref (xAd κ 254)), (4, .ref (xAd κ 255)), (5, .int (nI i))] → W p l e room_1 s m args below meth c H locs kc ks Q (F0 m 365 ls []) := by
  have hx := hc.1.1
  have hb := hc.1.2.1
  intro H locs ls hw hl
  unfold f_C_3 at hf
  refine lv_aload_n hx hb dL_law_365 rfl (lv_at hl 1 rfl) ?_
  refine lv_aload_n hx hb dL_law_366 rfl (lv_at hl 0 rfl) ?_
  refine lv_iload hx hb dL_law_367 (lv_at hl 5 rfl) ?_
  refine lv_iconst (v := 1) hx hb dL_law_369 (by decide) ?_
  refine lv_iadd hx hb dL_law_370 ?_
  refine va_sld hx hb hX hbl hbA hw.2 h1 dL_law_371 ?_
  rw [e1]
  refine lv_aload_n hx hb dL_law_372 rfl (lv_at hl 0 rfl) ?_
  refine lv_iload hx hb dL_law_373 (lv_at hl 5 rfl) ?_
  refine lv_iconst (v := 2) hx hb dL_law_375 (by decide) ?_
  refine lv_iadd hx hb dL_law_376 ?_
  refine va_sld hx hb hX hbl hbA hw.2 h2 dL_law_377 ?_
  rw [e2]
  refine lv_aload_n hx hb dL_law_378 rfl (lv_at hl 3 rfl) ?_
  obtain ⟨v1, uA_2, ut_3, uM1_4, uM2_5, uM3_6, uo_7, h8, hf⟩ := xb7_of hf
  refine x_hcalliS (As := [.ref (xAd κ 234), .int a1, .int a2, .ref (xAd κ 254)]) (rest := []) (σ' := (upA uA_2 0 (uP, uC, uD, uJ, ur, ut_3, ud, ug), (uT0, uT1, uT2, uT3, uT4, uT5, uT6, uT7, uT8), (uG0, uG1, uG2), (uM0, uM1_4, uM2_5, uM3_6, uM4), (uF0, uF1, uF2, uF3, uF4, uF5, uF6, uF7, uF8, uF9, uF10, uF11, uF12, uF13, uF14, uF15, uF16, uF17, uF18), uo_7, uv)) hc hw hl.1 hlt (m_L_setTier h8) kL_154 rfl rfl ⟨rfl, rfl⟩ ⟨Nat.le_of_ble_eq_true rfl, Nat.le_of_ble_eq_true rfl⟩ hz1 (Nat.le_of_ble_eq_true rfl) dL_law_379 (fun H locs hw => ?_)
  refine lv_istore (lv' := [(6, .int v1), (0, .ref b), (1, .ref (xAd κ 234)), (2, .ref (xAd κ 245)), (3, .ref (xAd κ 254)), (4, .ref (xAd κ 255)), (5, .int (nI i))]) hx hb dL_law_382 hl (by decide) rfl (fun ls hl => ?_)
  refine lv_aload_n hx hb dL_law_384 rfl (lv_at hl 3 rfl) ?_
  refine lv_aload_n hx hb dL_law_385 rfl (lv_at hl 1 rfl) ?_
  refine lv_iload hx hb dL_law_386 (lv_at hl 6 rfl) ?_
  refine lv_iconst (v := 1) hx hb dL_law_388 (by decide) ?_
  refine lv_iadd hx hb dL_law_389 ?_
  refine va_sld hx hb hX hbl hbA hw.2 h1 dL_law_390 ?_
  rw [e1]
  refine lv_aload_n hx hb dL_law_391 rfl (lv_at hl 1 rfl) ?_
  refine lv_iload hx hb dL_law_392 (lv_at hl 6 rfl) ?_
  refine lv_iconst (v := 2) hx hb dL_law_394 (by decide) ?_
  refine lv_iadd hx hb dL_law_395 ?_
  refine va_sld hx hb hX hbl hbA hw.2 h2 dL_law_396 ?_
  rw [e2]
  obtain ⟨v9, uF0_10, uF1_11, uF3_12, uF4_13, uF5_14, h15, hf⟩ := xb6_of hf
  refine x_calliV (As := [.int a1, .int a2]) (rest := []) (σ' := (upA uA_2 0 (uP, uC, uD, uJ, ur, ut_3, ud, ug), (uT0, uT1, uT2, uT3, uT4, uT5, uT6, uT7, uT8), (uG0, uG1, uG2), (uM0, uM1_4, uM2_5, uM3_6, uM4), (uF0_10, uF1_11, uF2, uF3_12, uF4_13, uF5_14, uF6, uF7, uF8, uF9, uF10, uF11, uF12, uF13, uF14, uF15, uF16, uF17, uF18), uo_7, uv)) hc hw hl.1 (m_X8_setTier h15) kL_156 co_245 rfl rfl ⟨rfl, rfl⟩ ⟨Nat.le_of_ble_eq_true rfl, Nat.le_of_ble_eq_true rfl⟩ hz1 (Nat.le_of_ble_eq_true rfl) dL_law_397 (fun H locs hw => ?_)
  refine lv_istore (lv' := [(7, .int v9), (6, .int v1), (0, .ref b), (1, .ref (xAd κ 234)), (2, .ref (xAd κ 245)), (3, .ref (xAd κ 254)), (4, .ref (xAd κ 255)), (5, .int (nI i))]) hx hb dL_law_400 hl (by decide) rfl (fun ls hl => ?_)
  refine lv_aload_n hx hb dL_law_402 rfl (lv_at hl 4 rfl) ?_
  obtain ⟨v16, h17, hf⟩ := xb1_of hf
  refine x_calliV (As := []) (rest := []) (σ' := (upA uA_2 0 (uP, uC, uD, uJ, ur, ut_3, ud, ug), (uT0, uT1, uT2, uT3, uT4, uT5, uT6, uT7, uT8), (uG0, uG1, uG2), (uM0, uM1_4, uM2_5, uM3_6, uM4), (uF0_10, uF1_11, uF2, uF3_12, uF4_13, uF5_14, uF6, uF7, uF8, uF9, uF10, uF11, uF12, uF13, uF14, uF15, uF16, uF17, uF18), uo_7, uv)) hc hw hl.1 (m_X8_thrown h17) kL_148 co_245 rfl rfl ⟨rfl, rfl⟩ ⟨Nat.le_of_ble_eq_true rfl, Nat.le_of_ble_eq_true rfl⟩ hz1 (Nat.le_of_ble_eq_true rfl) dL_law_403 (fun H locs hw => ?_)
  refine lv_iload hx hb dL_law_406 (lv_at hl 1 rfl) ?_
  refine lv_icmp_eq (tgt := 413) hx hb dL_law_408 (by decide) (fun c18 => ?_) (fun c18 => ?_)
  · have hf := xif_t c18 hf
    refine lv_iload hx hb dL_law_413 (lv_at hl 1 rfl) ?_
    refine lv_if_ne (tgt := 430) hx hb dL_law_415 (by decide) (fun c19 => ?_) (fun c19 => ?_)
    · have hf := xif_f c19 hf
      refine lv_goto (tgt := 2367) hx hb dL_law_430 (by decide) ?_
      cases hf
      exact K _ _ _ hw (lv_sub hl [2, 3, 4, 5, 6, 7] rfl)
    · have hf := xif_t c19 hf
      refine lv_aload_n hx hb dL_law_418 rfl (lv_at hl 5 rfl) ?_
      refine lv_iconst (v := 0) hx hb dL_law_419 (by decide) ?_
      obtain ⟨k20, hf⟩ := xk_of hf
      refine x_lald (n := 1) (f := uo_7) hc hw co_254 k20 dL_law_420 ?_
      refine lv_iload hx hb dL_law_421 (lv_at hl 0 rfl) ?_
      refine lv_i2l (v := v9.toInt64) hx hb dL_law_423 rfl ?_
      refine x_lcmp_eq (tgt := 430) hx hb dL_law_424 dL_law_425 (by decide) (fun c21 => ?_) (fun c21 => ?_)
      · have hf := xif_t c21 hf
        refine lv_goto (tgt := 2367) hx hb dL_law_430 (by decide) ?_
        cases hf
        exact K _ _ _ hw (lv_sub hl [2, 3, 4, 5, 6, 7] rfl)
      · have hf := xif_f c21 hf
        refine lv_iconst (v := 0) hx hb dL_law_428 (by decide) ?_
        cases hf
  · have hf := xif_f c18 hf
    refine lv_iconst (v := 0) hx hb dL_law_411 (by decide) ?_
    cases hf
set_option maxHeartbeats 4000000 in
set_option maxRecDepth 100000 in
theorem q_4 {l : Launch} {κ : xKt} {fu : Nat} {a1 a2 a3 : Int32} {uA : Nat → sAcc} {uP : sPar} {uC : sCla} {uD : sDeb} {uJ : sJou} {ur : xF32} {ut : xF32} {ud : Int32} {ug : Int32} {uT0 : Int32} {uT1 : xF32} {uT2 : Int32} {uT3 : Int32} {uT4 : Int32} {uT5 : xF32} {uT6 : xF32} {uT7 : xF32} {uT8 : xF32} {uG0 : Int32} {uG1 : xF32} {uG2 : xF32} {uM0 : Int32} {uM1 : Int32} {uM2 : Int32} {uM3 : Int32} {uM4 : Int32} {uF0 : Int32} {uF1 : xF64} {uF2 : xF64} {uF3 : xF64} {uF4 : xF64} {uF5 : Int32} {uF6 : Int32} {uF7 : Int32} {uF8 : xF32} {uF9 : Int32} {uF10 : Int32} {uF11 : Int64} {uF12 : xF32} {uF13 : Int32} {uF14 : Int32} {uF15 : Int32} {uF16 : xF32} {uF17 : xF32} {uF18 : Int32} {uo : xF64} {uv : Nat → UInt64} {yM3 : Int32} {yF0 : Int32} {yo : xF64} {A : Nat → Prop} {p : Program} {e : Env} {s : State} {m : MethodId} {args : Array Value} {below : List Frame} {meth : Method} {c : Code} {Q : State → Prop} {b L i kc ks : Nat} {xs : Nat → Int32}
    (hc : xC κ A p s m args meth c cL_law RL 9 (some .boolean)) (hlt : l.stackTraces = false) (hX : va_X b L xs s s.heap) (hbl : b < s.heap.size) (hbA : ¬ A b) (h1 : vp_in ((nI i) + 1) L) (h2 : vp_in ((nI i) + 2) L) (h3 : vp_in ((nI i) + 3) L) (e1 : xs ((nI i) + 1).toNatClampNeg = a1) (e2 : xs ((nI i) + 2).toNatClampNeg = a2) (e3 : xs ((nI i) + 3).toNatClampNeg = a3) (hz0 : kc ≤ room_1.cells ∧ ks ≤ room_1.slots) (hz1 : kc + 1 ≤ room_1.cells ∧ ks + 6 ≤ room_1.slots)
    (hf : f_C_4 fu a1 a2 uP uC uD ut uM3 uF0 uF1 uo = some (yM3, yF0, yo))
    (K : ∀ (H : Heap) (locs : List Loc) (ls : Array Slot), xW κ A s (upA uA 0 (uP, uC, uD, uJ, ur, ut, ud, ug), (uT0, uT1, uT2, uT3, uT4, uT5, uT6, uT7, uT8), (uG0, uG1, uG2), (uM0, uM1, uM2, yM3, uM4), (yF0, uF1, uF2, uF3, uF4, uF5, uF6, uF7, uF8, uF9, uF10, uF11, uF12, uF13, uF14, uF15, uF16, uF17, uF18), yo, uv) H locs → lv_has ls 9 [(0, .ref b), (1, .ref (xAd κ 234)), (2, .ref (xAd κ 245)), (3, .ref (xAd κ 254)), (4, .ref (xAd κ 255)), (5, .int (nI i))] → W p l e room_1 s m args below meth c H locs (kc + 1) (ks + 6) Q (F0 m 2367 ls [])) :
    ∀ (H : Heap) (locs : List Loc) (ls : Array Slot), xW κ A s (upA uA 0 (uP, uC, uD, uJ, ur, ut, ud, ug), (uT0, uT1, uT2, uT3, uT4, uT5, uT6, uT7, uT8), (uG0, uG1, uG2), (uM0, uM1, uM2, uM3, uM4), (uF0, uF1, uF2, uF3, uF4, uF5, uF6, uF7, uF8, uF9, uF10, uF11, uF12, uF13, uF14, uF15, uF16, uF17, uF18), uo, uv) H locs → lv_has ls 9 [(0, .ref b), (1, .ref (xAd κ 234)), (2, .ref (xAd κ 245)), (3, .ref (xAd κ 254)), (4, .ref (xAd κ 255)), (5, .int (nI i))] → W p l e room_1 s m args below meth c H locs kc ks Q (F0 m 433 ls []) := by
  have hx := hc.1.1
  have hb := hc.1.2.1
  intro H locs ls hw hl
  unfold f_C_4 at hf
  refine lv_aload_n hx hb dL_law_433 rfl (lv_at hl 1 rfl) ?_
  refine lv_aload_n hx hb dL_law_434 rfl (lv_at hl 0 rfl) ?_
  refine lv_iload hx hb dL_law_435 (lv_at hl 5 rfl) ?_
  refine lv_iconst (v := 1) hx hb dL_law_437 (by decide) ?_
  refine lv_iadd hx hb dL_law_438 ?_
  refine va_sld hx hb hX hbl hbA hw.2 h1 dL_law_439 ?_
  rw [e1]
  refine lv_aload_n hx hb dL_law_440 rfl (lv_at hl 0 rfl) ?_
  refine lv_iload hx hb dL_law_441 (lv_at hl 5 rfl) ?_
  refine lv_iconst (v := 2) hx hb dL_law_443 (by decide) ?_
  refine lv_iadd hx hb dL_law_444 ?_
  refine va_sld hx hb hX hbl hbA hw.2 h2 dL_law_445 ?_
  rw [e2]
  refine lv_aload_n hx hb dL_law_446 rfl (lv_at hl 3 rfl) ?_
  obtain ⟨v1, uM3_2, uo_3, h4, hf⟩ := xb3_of hf
  refine x_hcalliS (As := [.ref (xAd κ 234), .int a1, .int a2, .ref (xAd κ 254)]) (rest := []) (σ' := (upA uA 0 (uP, uC, uD, uJ, ur, ut, ud, ug), (uT0, uT1, uT2, uT3, uT4, uT5, uT6, uT7, uT8), (uG0, uG1, uG2), (uM0, uM1, uM2, uM3_2, uM4), (uF0, uF1, uF2, uF3, uF4, uF5, uF6, uF7, uF8, uF9, uF10, uF11, uF12, uF13, uF14, uF15, uF16, uF17, uF18), uo_3, uv)) hc hw hl.1 hlt (m_L_party h4) kL_157 rfl rfl ⟨rfl, rfl⟩ ⟨Nat.le_of_ble_eq_true rfl, Nat.le_of_ble_eq_true rfl⟩ hz1 (Nat.le_of_ble_eq_true rfl) dL_law_447 (fun H locs hw => ?_)
  refine lv_istore (lv' := [(6, .int v1), (0, .ref b), (1, .ref (xAd κ 234)), (2, .ref (xAd κ 245)), (3, .ref (xAd κ 254)), (4, .ref (xAd κ 255)), (5, .int (nI i))]) hx hb dL_law_450 hl (by decide) rfl (fun ls hl => ?_)
  refine lv_aload_n hx hb dL_law_452 rfl (lv_at hl 3 rfl) ?_
  refine lv_aload_n hx hb dL_law_453 rfl (lv_at hl 1 rfl) ?_
  refine lv_iload hx hb dL_law_454 (lv_at hl 6 rfl) ?_
  refine lv_iconst (v := 1) hx hb dL_law_456 (by decide) ?_
  refine lv_iadd hx hb dL_law_457 ?_
  refine va_sld hx hb hX hbl hbA hw.2 h1 dL_law_458 ?_
  rw [e1]
  refine lv_aload_n hx hb dL_law_459 rfl (lv_at hl 1 rfl) ?_
  refine lv_iload hx hb dL_law_460 (lv_at hl 6 rfl) ?_
  refine lv_iconst (v := 2) hx hb dL_law_462 (by decide) ?_
  refine lv_iadd hx hb dL_law_463 ?_
  refine va_sld hx hb hX hbl hbA hw.2 h2 dL_law_464 ?_
  rw [e2]
  obtain ⟨v5, uF0_6, h7, hf⟩ := xb2_of hf
  refine x_calllV (As := [.int a1, .int a2]) (rest := []) (σ' := (upA uA 0 (uP, uC, uD, uJ, ur, ut, ud, ug), (uT0, uT1, uT2, uT3, uT4, uT5, uT6, uT7, uT8), (uG0, uG1, uG2), (uM0, uM1, uM2, uM3_2, uM4), (uF0_6, uF1, uF2, uF3, uF4, uF5, uF6, uF7, uF8, uF9, uF10, uF11, uF12, uF13, uF14, uF15, uF16, uF17, uF18), uo_3, uv)) hc hw hl.1 (m_X8_party h7) kL_159 co_245 rfl rfl ⟨rfl, rfl⟩ ⟨Nat.le_of_ble_eq_true rfl, Nat.le_of_ble_eq_true rfl⟩ hz1 (Nat.le_of_ble_eq_true rfl) dL_law_465 (fun H locs hw => ?_)
  refine lv_lstore (lv' := [(7, .long v5), (6, .int v1), (0, .ref b), (1, .ref (xAd κ 234)), (2, .ref (xAd κ 245)), (3, .ref (xAd κ 254)), (4, .ref (xAd κ 255)), (5, .int (nI i))]) hx hb dL_law_468 hl (by decide) rfl (fun ls hl => ?_)
  refine lv_aload_n hx hb dL_law_470 rfl (lv_at hl 4 rfl) ?_
  obtain ⟨v8, h9, hf⟩ := xb1_of hf
  refine x_calliV (As := []) (rest := []) (σ' := (upA uA 0 (uP, uC, uD, uJ, ur, ut, ud, ug), (uT0, uT1, uT2, uT3, uT4, uT5, uT6, uT7, uT8), (uG0, uG1, uG2), (uM0, uM1, uM2, uM3_2, uM4), (uF0_6, uF1, uF2, uF3, uF4, uF5, uF6, uF7, uF8, uF9, uF10, uF11, uF12, uF13, uF14, uF15, uF16, uF17, uF18), uo_3, uv)) hc hw hl.1 (m_X8_thrown h9) kL_148 co_245 rfl rfl ⟨rfl, rfl⟩ ⟨Nat.le_of_ble_eq_true rfl, Nat.le_of_ble_eq_true rfl⟩ hz1 (Nat.le_of_ble_eq_true rfl) dL_law_471 (fun H locs hw => ?_)
  refine lv_iload hx hb dL_law_474 (lv_at hl 1 rfl) ?_
  refine lv_icmp_eq (tgt := 481) hx hb dL_law_476 (by decide) (fun c10 => ?_) (fun c10 => ?_)
  · have hf := xif_t c10 hf
    refine lv_iload hx hb dL_law_481 (lv_at hl 1 rfl) ?_
    refine lv_if_ne (tgt := 497) hx hb dL_law_483 (by decide) (fun c11 => ?_) (fun c11 => ?_)
    · have hf := xif_f c11 hf
      refine lv_goto (tgt := 2367) hx hb dL_law_497 (by decide) ?_
      cases hf
      exact K _ _ _ hw (lv_sub hl [2, 3, 4, 5, 6, 7] rfl)
    · have hf := xif_t c11 hf
      refine lv_aload_n hx hb dL_law_486 rfl (lv_at hl 5 rfl) ?_
      refine lv_iconst (v := 0) hx hb dL_law_487 (by decide) ?_
      obtain ⟨k12, hf⟩ := xk_of hf
      refine x_lald (n := 1) (f := uo_3) hc hw co_254 k12 dL_law_488 ?_
      refine lv_lload hx hb dL_law_489 (lv_at hl 0 rfl) ?_
      refine x_lcmp_eq (tgt := 497) hx hb dL_law_491 dL_law_492 (by decide) (fun c13 => ?_) (fun c13 => ?_)
      · have hf := xif_t c13 hf
        refine lv_goto (tgt := 2367) hx hb dL_law_497 (by decide) ?_
        cases hf
        exact K _ _ _ hw (lv_sub hl [2, 3, 4, 5, 6, 7] rfl)
      · have hf := xif_f c13 hf
        refine lv_iconst (v := 0) hx hb dL_law_495 (by decide) ?_
        cases hf
  · have hf := xif_f c10 hf
    refine lv_iconst (v := 0) hx hb dL_law_479 (by decide) ?_
    cases hf
set_option maxHeartbeats 4000000 in
set_option maxRecDepth 100000 in
theorem q_5 {l : Launch} {κ : xKt} {fu : Nat} {a1 a2 a3 : Int32} {uA : Nat → sAcc} {uP : sPar} {uC : sCla} {uD : sDeb} {uJ : sJou} {ur : xF32} {ut : xF32} {ud : Int32} {ug : Int32} {uT0 : Int32} {uT1 : xF32} {uT2 : Int32} {uT3 : Int32} {uT4 : Int32} {uT5 : xF32} {uT6 : xF32} {uT7 : xF32} {uT8 : xF32} {uG0 : Int32} {uG1 : xF32} {uG2 : xF32} {uM0 : Int32} {uM1 : Int32} {uM2 : Int32} {uM3 : Int32} {uM4 : Int32} {uF0 : Int32} {uF1 : xF64} {uF2 : xF64} {uF3 : xF64} {uF4 : xF64} {uF5 : Int32} {uF6 : Int32} {uF7 : Int32} {uF8 : xF32} {uF9 : Int32} {uF10 : Int32} {uF11 : Int64} {uF12 : xF32} {uF13 : Int32} {uF14 : Int32} {uF15 : Int32} {uF16 : xF32} {uF17 : xF32} {uF18 : Int32} {uo : xF64} {uv : Nat → UInt64} {yA : Nat → sAcc} {yC : sCla} {yM1 : Int32} {yM2 : Int32} {yM3 : Int32} {yF0 : Int32} {yF1 : xF64} {yF3 : xF64} {yF4 : xF64} {yF5 : Int32} {yF11 : Int64} {yo : xF64} {A : Nat → Prop} {p : Program} {e : Env} {s : State} {m : MethodId} {args : Array Value} {below : List Frame} {meth : Method} {c : Code} {Q : State → Prop} {b L i kc ks : Nat} {xs : Nat → Int32}
    (hc : xC κ A p s m args meth c cL_law RL 9 (some .boolean)) (hlt : l.stackTraces = false) (hX : va_X b L xs s s.heap) (hbl : b < s.heap.size) (hbA : ¬ A b) (h1 : vp_in ((nI i) + 1) L) (h2 : vp_in ((nI i) + 2) L) (h3 : vp_in ((nI i) + 3) L) (e1 : xs ((nI i) + 1).toNatClampNeg = a1) (e2 : xs ((nI i) + 2).toNatClampNeg = a2) (e3 : xs ((nI i) + 3).toNatClampNeg = a3) (hz0 : kc ≤ room_1.cells ∧ ks ≤ room_1.slots) (hz1 : kc + 1 ≤ room_1.cells ∧ ks + 6 ≤ room_1.slots)
    (hf : f_C_5 fu a1 a2 a3 uA uP uC uD uJ ur ut ud ug uM1 uM2 uM3 uF0 uF1 uF3 uF4 uF5 uF11 uo = some (yA, yC, yM1, yM2, yM3, yF0, yF1, yF3, yF4, yF5, yF11, yo))
    (K : ∀ (H : Heap) (locs : List Loc) (ls : Array Slot), xW κ A s (upA yA 0 (uP, yC, uD, uJ, ur, ut, ud, ug), (uT0, uT1, uT2, uT3, uT4, uT5, uT6, uT7, uT8), (uG0, uG1, uG2), (uM0, yM1, yM2, yM3, uM4), (yF0, yF1, uF2, yF3, yF4, yF5, uF6, uF7, uF8, uF9, uF10, yF11, uF12, uF13, uF14, uF15, uF16, uF17, uF18), yo, uv) H locs → lv_has ls 9 [(0, .ref b), (1, .ref (xAd κ 234)), (2, .ref (xAd κ 245)), (3, .ref (xAd κ 254)), (4, .ref (xAd κ 255)), (5, .int (nI i))] → W p l e room_1 s m args below meth c H locs (kc + 1) (ks + 6) Q (F0 m 2367 ls [])) :
    ∀ (H : Heap) (locs : List Loc) (ls : Array Slot), xW κ A s (upA uA 0 (uP, uC, uD, uJ, ur, ut, ud, ug), (uT0, uT1, uT2, uT3, uT4, uT5, uT6, uT7, uT8), (uG0, uG1, uG2), (uM0, uM1, uM2, uM3, uM4), (uF0, uF1, uF2, uF3, uF4, uF5, uF6, uF7, uF8, uF9, uF10, uF11, uF12, uF13, uF14, uF15, uF16, uF17, uF18), uo, uv) H locs → lv_has ls 9 [(0, .ref b), (1, .ref (xAd κ 234)), (2, .ref (xAd κ 245)), (3, .ref (xAd κ 254)), (4, .ref (xAd κ 255)), (5, .int (nI i))] → W p l e room_1 s m args below meth c H locs kc ks Q (F0 m 500 ls []) := by
  have hx := hc.1.1
  have hb := hc.1.2.1
  intro H locs ls hw hl
  unfold f_C_5 at hf
  refine lv_aload_n hx hb dL_law_500 rfl (lv_at hl 1 rfl) ?_
  refine lv_aload_n hx hb dL_law_501 rfl (lv_at hl 0 rfl) ?_
  refine lv_iload hx hb dL_law_502 (lv_at hl 5 rfl) ?_
  refine lv_iconst (v := 1) hx hb dL_law_504 (by decide) ?_
  refine lv_iadd hx hb dL_law_505 ?_
  refine va_sld hx hb hX hbl hbA hw.2 h1 dL_law_506 ?_
  rw [e1]
  refine lv_aload_n hx hb dL_law_507 rfl (lv_at hl 0 rfl) ?_
  refine lv_iload hx hb dL_law_508 (lv_at hl 5 rfl) ?_
  refine lv_iconst (v := 2) hx hb dL_law_510 (by decide) ?_
  refine lv_iadd hx hb dL_law_511 ?_
  refine va_sld hx hb hX hbl hbA hw.2 h2 dL_law_512 ?_
  rw [e2]
  refine lv_aload_n hx hb dL_law_513 rfl (lv_at hl 0 rfl) ?_
  refine lv_iload hx hb dL_law_514 (lv_at hl 5 rfl) ?_
  refine lv_iconst (v := 3) hx hb dL_law_516 (by decide) ?_
  refine lv_iadd hx hb dL_law_517 ?_
  refine va_sld hx hb hX hbl hbA hw.2 h3 dL_law_518 ?_
  rw [e3]
  refine lv_aload_n hx hb dL_law_519 rfl (lv_at hl 3 rfl) ?_
  obtain ⟨v1, uA_2, uC_3, uM1_4, uM2_5, uM3_6, uo_7, h8, hf⟩ := xb7_of hf
  refine x_hcalliS (As := [.ref (xAd κ 234), .int a1, .int a2, .int a3, .ref (xAd κ 254)]) (rest := []) (σ' := (upA uA_2 0 (uP, uC_3, uD, uJ, ur, ut, ud, ug), (uT0, uT1, uT2, uT3, uT4, uT5, uT6, uT7, uT8), (uG0, uG1, uG2), (uM0, uM1_4, uM2_5, uM3_6, uM4), (uF0, uF1, uF2, uF3, uF4, uF5, uF6, uF7, uF8, uF9, uF10, uF11, uF12, uF13, uF14, uF15, uF16, uF17, uF18), uo_7, uv)) hc hw hl.1 hlt (m_L_claim h8) kL_160 rfl rfl ⟨rfl, rfl⟩ ⟨Nat.le_of_ble_eq_true rfl, Nat.le_of_ble_eq_true rfl⟩ hz1 (Nat.le_of_ble_eq_true rfl) dL_law_520 (fun H locs hw => ?_)
  refine lv_istore (lv' := [(6, .int v1), (0, .ref b), (1, .ref (xAd κ 234)), (2, .ref (xAd κ 245)), (3, .ref (xAd κ 254)), (4, .ref (xAd κ 255)), (5, .int (nI i))]) hx hb dL_law_523 hl (by decide) rfl (fun ls hl => ?_)
  refine lv_aload_n hx hb dL_law_525 rfl (lv_at hl 3 rfl) ?_
  refine lv_aload_n hx hb dL_law_526 rfl (lv_at hl 1 rfl) ?_
  refine lv_iload hx hb dL_law_527 (lv_at hl 6 rfl) ?_
  refine lv_iconst (v := 1) hx hb dL_law_529 (by decide) ?_
  refine lv_iadd hx hb dL_law_530 ?_
  refine va_sld hx hb hX hbl hbA hw.2 h1 dL_law_531 ?_
  rw [e1]
  refine lv_aload_n hx hb dL_law_532 rfl (lv_at hl 1 rfl) ?_
  refine lv_iload hx hb dL_law_533 (lv_at hl 6 rfl) ?_
  refine lv_iconst (v := 2) hx hb dL_law_535 (by decide) ?_
  refine lv_iadd hx hb dL_law_536 ?_
  refine va_sld hx hb hX hbl hbA hw.2 h2 dL_law_537 ?_
  rw [e2]
  refine lv_aload_n hx hb dL_law_538 rfl (lv_at hl 1 rfl) ?_
  refine lv_iload hx hb dL_law_539 (lv_at hl 6 rfl) ?_
  refine lv_iconst (v := 3) hx hb dL_law_541 (by decide) ?_
  refine lv_iadd hx hb dL_law_542 ?_
  refine va_sld hx hb hX hbl hbA hw.2 h3 dL_law_543 ?_
  rw [e3]
  obtain ⟨v9, uF0_10, uF1_11, uF3_12, uF4_13, uF5_14, uF11_15, h16, hf⟩ := xb7_of hf
  refine x_calliV (As := [.int a1, .int a2, .int a3]) (rest := []) (σ' := (upA uA_2 0 (uP, uC_3, uD, uJ, ur, ut, ud, ug), (uT0, uT1, uT2, uT3, uT4, uT5, uT6, uT7, uT8), (uG0, uG1, uG2), (uM0, uM1_4, uM2_5, uM3_6, uM4), (uF0_10, uF1_11, uF2, uF3_12, uF4_13, uF5_14, uF6, uF7, uF8, uF9, uF10, uF11_15, uF12, uF13, uF14, uF15, uF16, uF17, uF18), uo_7, uv)) hc hw hl.1 (m_X8_claim h16) kL_163 co_245 rfl rfl ⟨rfl, rfl⟩ ⟨Nat.le_of_ble_eq_true rfl, Nat.le_of_ble_eq_true rfl⟩ hz1 (Nat.le_of_ble_eq_true rfl) dL_law_544 (fun H locs hw => ?_)
  refine lv_istore (lv' := [(7, .int v9), (6, .int v1), (0, .ref b), (1, .ref (xAd κ 234)), (2, .ref (xAd κ 245)), (3, .ref (xAd κ 254)), (4, .ref (xAd κ 255)), (5, .int (nI i))]) hx hb dL_law_547 hl (by decide) rfl (fun ls hl => ?_)
  refine lv_aload_n hx hb dL_law_549 rfl (lv_at hl 4 rfl) ?_
  obtain ⟨v17, h18, hf⟩ := xb1_of hf
  refine x_calliV (As := []) (rest := []) (σ' := (upA uA_2 0 (uP, uC_3, uD, uJ, ur, ut, ud, ug), (uT0, uT1, uT2, uT3, uT4, uT5, uT6, uT7, uT8), (uG0, uG1, uG2), (uM0, uM1_4, uM2_5, uM3_6, uM4), (uF0_10, uF1_11, uF2, uF3_12, uF4_13, uF5_14, uF6, uF7, uF8, uF9, uF10, uF11_15, uF12, uF13, uF14, uF15, uF16, uF17, uF18), uo_7, uv)) hc hw hl.1 (m_X8_thrown h18) kL_148 co_245 rfl rfl ⟨rfl, rfl⟩ ⟨Nat.le_of_ble_eq_true rfl, Nat.le_of_ble_eq_true rfl⟩ hz1 (Nat.le_of_ble_eq_true rfl) dL_law_550 (fun H locs hw => ?_)
  refine lv_iload hx hb dL_law_553 (lv_at hl 1 rfl) ?_
  refine lv_icmp_eq (tgt := 560) hx hb dL_law_555 (by decide) (fun c19 => ?_) (fun c19 => ?_)
  · have hf := xif_t c19 hf
    refine lv_iload hx hb dL_law_560 (lv_at hl 1 rfl) ?_
    refine lv_if_ne (tgt := 577) hx hb dL_law_562 (by decide) (fun c20 => ?_) (fun c20 => ?_)
    · have hf := xif_f c20 hf
      refine lv_goto (tgt := 2367) hx hb dL_law_577 (by decide) ?_
      cases hf
      exact K _ _ _ hw (lv_sub hl [2, 3, 4, 5, 6, 7] rfl)
    · have hf := xif_t c20 hf
      refine lv_aload_n hx hb dL_law_565 rfl (lv_at hl 5 rfl) ?_
      refine lv_iconst (v := 0) hx hb dL_law_566 (by decide) ?_
      obtain ⟨k21, hf⟩ := xk_of hf
      refine x_lald (n := 1) (f := uo_7) hc hw co_254 k21 dL_law_567 ?_
      refine lv_iload hx hb dL_law_568 (lv_at hl 0 rfl) ?_
      refine lv_i2l (v := v9.toInt64) hx hb dL_law_570 rfl ?_
      refine x_lcmp_eq (tgt := 577) hx hb dL_law_571 dL_law_572 (by decide) (fun c22 => ?_) (fun c22 => ?_)
      · have hf := xif_t c22 hf
        refine lv_goto (tgt := 2367) hx hb dL_law_577 (by decide) ?_
        cases hf
        exact K _ _ _ hw (lv_sub hl [2, 3, 4, 5, 6, 7] rfl)
      · have hf := xif_f c22 hf
        refine lv_iconst (v := 0) hx hb dL_law_575 (by decide) ?_
        cases hf
  · have hf := xif_f c19 hf
    refine lv_iconst (v := 0) hx hb dL_law_558 (by decide) ?_
    cases hf
set_option maxHeartbeats 4000000 in
set_option maxRecDepth 100000 in
theorem q_6 {l : Launch} {κ : xKt} {fu : Nat} {a1 a2 a3 : Int32} {uA : Nat → sAcc} {uP : sPar} {uC : sCla} {uD : sDeb} {uJ : sJou} {ur : xF32} {ut : xF32} {ud : Int32} {ug : Int32} {uT0 : Int32} {uT1 : xF32} {uT2 : Int32} {uT3 : Int32} {uT4 : Int32} {uT5 : xF32} {uT6 : xF32} {uT7 : xF32} {uT8 : xF32} {uG0 : Int32} {uG1 : xF32} {uG2 : xF32} {uM0 : Int32} {uM1 : Int32} {uM2 : Int32} {uM3 : Int32} {uM4 : Int32} {uF0 : Int32} {uF1 : xF64} {uF2 : xF64} {uF3 : xF64} {uF4 : xF64} {uF5 : Int32} {uF6 : Int32} {uF7 : Int32} {uF8 : xF32} {uF9 : Int32} {uF10 : Int32} {uF11 : Int64} {uF12 : xF32} {uF13 : Int32} {uF14 : Int32} {uF15 : Int32} {uF16 : xF32} {uF17 : xF32} {uF18 : Int32} {uo : xF64} {uv : Nat → UInt64} {yA : Nat → sAcc} {yC : sCla} {yD : sDeb} {yJ : sJou} {yM1 : Int32} {yM2 : Int32} {yM3 : Int32} {yF0 : Int32} {yF1 : xF64} {yF3 : xF64} {yF4 : xF64} {yF5 : Int32} {yF7 : Int32} {yF11 : Int64} {yo : xF64} {A : Nat → Prop} {p : Program} {e : Env} {s : State} {m : MethodId} {args : Array Value} {below : List Frame} {meth : Method} {c : Code} {Q : State → Prop} {b L i kc ks : Nat} {xs : Nat → Int32}
    (hc : xC κ A p s m args meth c cL_law RL 9 (some .boolean)) (hlt : l.stackTraces = false) (hX : va_X b L xs s s.heap) (hbl : b < s.heap.size) (hbA : ¬ A b) (h1 : vp_in ((nI i) + 1) L) (h2 : vp_in ((nI i) + 2) L) (h3 : vp_in ((nI i) + 3) L) (e1 : xs ((nI i) + 1).toNatClampNeg = a1) (e2 : xs ((nI i) + 2).toNatClampNeg = a2) (e3 : xs ((nI i) + 3).toNatClampNeg = a3) (hz0 : kc ≤ room_1.cells ∧ ks ≤ room_1.slots) (hz1 : kc + 1 ≤ room_1.cells ∧ ks + 6 ≤ room_1.slots)
    (hf : f_C_6 fu a1 a2 uA uP uC uD uJ ur ut ud ug uM1 uM2 uM3 uF0 uF1 uF3 uF4 uF5 uF7 uF11 uo = some (yA, yC, yD, yJ, yM1, yM2, yM3, yF0, yF1, yF3, yF4, yF5, yF7, yF11, yo))
    (K : ∀ (H : Heap) (locs : List Loc) (ls : Array Slot), xW κ A s (upA yA 0 (uP, yC, yD, yJ, ur, ut, ud, ug), (uT0, uT1, uT2, uT3, uT4, uT5, uT6, uT7, uT8), (uG0, uG1, uG2), (uM0, yM1, yM2, yM3, uM4), (yF0, yF1, uF2, yF3, yF4, yF5, uF6, yF7, uF8, uF9, uF10, yF11, uF12, uF13, uF14, uF15, uF16, uF17, uF18), yo, uv) H locs → lv_has ls 9 [(0, .ref b), (1, .ref (xAd κ 234)), (2, .ref (xAd κ 245)), (3, .ref (xAd κ 254)), (4, .ref (xAd κ 255)), (5, .int (nI i))] → W p l e room_1 s m args below meth c H locs (kc + 1) (ks + 6) Q (F0 m 2367 ls [])) :
    ∀ (H : Heap) (locs : List Loc) (ls : Array Slot), xW κ A s (upA uA 0 (uP, uC, uD, uJ, ur, ut, ud, ug), (uT0, uT1, uT2, uT3, uT4, uT5, uT6, uT7, uT8), (uG0, uG1, uG2), (uM0, uM1, uM2, uM3, uM4), (uF0, uF1, uF2, uF3, uF4, uF5, uF6, uF7, uF8, uF9, uF10, uF11, uF12, uF13, uF14, uF15, uF16, uF17, uF18), uo, uv) H locs → lv_has ls 9 [(0, .ref b), (1, .ref (xAd κ 234)), (2, .ref (xAd κ 245)), (3, .ref (xAd κ 254)), (4, .ref (xAd κ 255)), (5, .int (nI i))] → W p l e room_1 s m args below meth c H locs kc ks Q (F0 m 580 ls []) := by
  have hx := hc.1.1
  have hb := hc.1.2.1
  intro H locs ls hw hl
  unfold f_C_6 at hf
  refine lv_aload_n hx hb dL_law_580 rfl (lv_at hl 1 rfl) ?_
  refine lv_aload_n hx hb dL_law_581 rfl (lv_at hl 0 rfl) ?_
  refine lv_iload hx hb dL_law_582 (lv_at hl 5 rfl) ?_
  refine lv_iconst (v := 1) hx hb dL_law_584 (by decide) ?_
  refine lv_iadd hx hb dL_law_585 ?_
  refine va_sld hx hb hX hbl hbA hw.2 h1 dL_law_586 ?_
  rw [e1]
  refine lv_aload_n hx hb dL_law_587 rfl (lv_at hl 0 rfl) ?_
  refine lv_iload hx hb dL_law_588 (lv_at hl 5 rfl) ?_
  refine lv_iconst (v := 2) hx hb dL_law_590 (by decide) ?_
  refine lv_iadd hx hb dL_law_591 ?_
  refine va_sld hx hb hX hbl hbA hw.2 h2 dL_law_592 ?_
  rw [e2]
  refine lv_aload_n hx hb dL_law_593 rfl (lv_at hl 3 rfl) ?_
  obtain ⟨v1, uA_2, uC_3, uD_4, uJ_5, uM1_6, uM2_7, uM3_8, uo_9, h10, hf⟩ := xb9_of hf
  refine x_hcalliS (As := [.ref (xAd κ 234), .int a1, .int a2, .ref (xAd κ 254)]) (rest := []) (σ' := (upA uA_2 0 (uP, uC_3, uD_4, uJ_5, ur, ut, ud, ug), (uT0, uT1, uT2, uT3, uT4, uT5, uT6, uT7, uT8), (uG0, uG1, uG2), (uM0, uM1_6, uM2_7, uM3_8, uM4), (uF0, uF1, uF2, uF3, uF4, uF5, uF6, uF7, uF8, uF9, uF10, uF11, uF12, uF13, uF14, uF15, uF16, uF17, uF18), uo_9, uv)) hc hw hl.1 hlt (m_L_award h10) kL_164 rfl rfl ⟨rfl, rfl⟩ ⟨Nat.le_of_ble_eq_true rfl, Nat.le_of_ble_eq_true rfl⟩ hz1 (Nat.le_of_ble_eq_true rfl) dL_law_594 (fun H locs hw => ?_)
  refine lv_istore (lv' := [(6, .int v1), (0, .ref b), (1, .ref (xAd κ 234)), (2, .ref (xAd κ 245)), (3, .ref (xAd κ 254)), (4, .ref (xAd κ 255)), (5, .int (nI i))]) hx hb dL_law_597 hl (by decide) rfl (fun ls hl => ?_)
  refine lv_aload_n hx hb dL_law_599 rfl (lv_at hl 3 rfl) ?_
  refine lv_aload_n hx hb dL_law_600 rfl (lv_at hl 1 rfl) ?_
  refine lv_iload hx hb dL_law_601 (lv_at hl 6 rfl) ?_
  refine lv_iconst (v := 1) hx hb dL_law_603 (by decide) ?_
  refine lv_iadd hx hb dL_law_604 ?_
  refine va_sld hx hb hX hbl hbA hw.2 h1 dL_law_605 ?_
  rw [e1]
  refine lv_aload_n hx hb dL_law_606 rfl (lv_at hl 1 rfl) ?_
  refine lv_iload hx hb dL_law_607 (lv_at hl 6 rfl) ?_
  refine lv_iconst (v := 2) hx hb dL_law_609 (by decide) ?_
  refine lv_iadd hx hb dL_law_610 ?_
  refine va_sld hx hb hX hbl hbA hw.2 h2 dL_law_611 ?_
  rw [e2]
  obtain ⟨v11, uF0_12, uF1_13, uF3_14, uF4_15, uF5_16, uF7_17, uF11_18, h19, hf⟩ := xb8_of hf
  refine x_calliV (As := [.int a1, .int a2]) (rest := []) (σ' := (upA uA_2 0 (uP, uC_3, uD_4, uJ_5, ur, ut, ud, ug), (uT0, uT1, uT2, uT3, uT4, uT5, uT6, uT7, uT8), (uG0, uG1, uG2), (uM0, uM1_6, uM2_7, uM3_8, uM4), (uF0_12, uF1_13, uF2, uF3_14, uF4_15, uF5_16, uF6, uF7_17, uF8, uF9, uF10, uF11_18, uF12, uF13, uF14, uF15, uF16, uF17, uF18), uo_9, uv)) hc hw hl.1 (m_X8_award h19) kL_166 co_245 rfl rfl ⟨rfl, rfl⟩ ⟨Nat.le_of_ble_eq_true rfl, Nat.le_of_ble_eq_true rfl⟩ hz1 (Nat.le_of_ble_eq_true rfl) dL_law_612 (fun H locs hw => ?_)
  refine lv_istore (lv' := [(7, .int v11), (6, .int v1), (0, .ref b), (1, .ref (xAd κ 234)), (2, .ref (xAd κ 245)), (3, .ref (xAd κ 254)), (4, .ref (xAd κ 255)), (5, .int (nI i))]) hx hb dL_law_615 hl (by decide) rfl (fun ls hl => ?_)
  refine lv_aload_n hx hb dL_law_617 rfl (lv_at hl 4 rfl) ?_
  obtain ⟨v20, h21, hf⟩ := xb1_of hf
  refine x_calliV (As := []) (rest := []) (σ' := (upA uA_2 0 (uP, uC_3, uD_4, uJ_5, ur, ut, ud, ug), (uT0, uT1, uT2, uT3, uT4, uT5, uT6, uT7, uT8), (uG0, uG1, uG2), (uM0, uM1_6, uM2_7, uM3_8, uM4), (uF0_12, uF1_13, uF2, uF3_14, uF4_15, uF5_16, uF6, uF7_17, uF8, uF9, uF10, uF11_18, uF12, uF13, uF14, uF15, uF16, uF17, uF18), uo_9, uv)) hc hw hl.1 (m_X8_thrown h21) kL_148 co_245 rfl rfl ⟨rfl, rfl⟩ ⟨Nat.le_of_ble_eq_true rfl, Nat.le_of_ble_eq_true rfl⟩ hz1 (Nat.le_of_ble_eq_true rfl) dL_law_618 (fun H locs hw => ?_)
  refine lv_iload hx hb dL_law_621 (lv_at hl 1 rfl) ?_
  refine lv_icmp_eq (tgt := 628) hx hb dL_law_623 (by decide) (fun c22 => ?_) (fun c22 => ?_)
  · have hf := xif_t c22 hf
    refine lv_iload hx hb dL_law_628 (lv_at hl 1 rfl) ?_
    refine lv_if_ne (tgt := 645) hx hb dL_law_630 (by decide) (fun c23 => ?_) (fun c23 => ?_)
    · have hf := xif_f c23 hf
      refine lv_goto (tgt := 2367) hx hb dL_law_645 (by decide) ?_
      cases hf
      exact K _ _ _ hw (lv_sub hl [2, 3, 4, 5, 6, 7] rfl)
    · have hf := xif_t c23 hf
      refine lv_aload_n hx hb dL_law_633 rfl (lv_at hl 5 rfl) ?_
      refine lv_iconst (v := 0) hx hb dL_law_634 (by decide) ?_
      obtain ⟨k24, hf⟩ := xk_of hf
      refine x_lald (n := 1) (f := uo_9) hc hw co_254 k24 dL_law_635 ?_
      refine lv_iload hx hb dL_law_636 (lv_at hl 0 rfl) ?_
      refine lv_i2l (v := v11.toInt64) hx hb dL_law_638 rfl ?_
      refine x_lcmp_eq (tgt := 645) hx hb dL_law_639 dL_law_640 (by decide) (fun c25 => ?_) (fun c25 => ?_)
      · have hf := xif_t c25 hf
        refine lv_goto (tgt := 2367) hx hb dL_law_645 (by decide) ?_
        cases hf
        exact K _ _ _ hw (lv_sub hl [2, 3, 4, 5, 6, 7] rfl)
      · have hf := xif_f c25 hf
        refine lv_iconst (v := 0) hx hb dL_law_643 (by decide) ?_
        cases hf
  · have hf := xif_f c22 hf
    refine lv_iconst (v := 0) hx hb dL_law_626 (by decide) ?_
    cases hf
set_option maxHeartbeats 4000000 in
set_option maxRecDepth 100000 in
theorem q_7 {l : Launch} {κ : xKt} {fu : Nat} {a1 a2 a3 : Int32} {uA : Nat → sAcc} {uP : sPar} {uC : sCla} {uD : sDeb} {uJ : sJou} {ur : xF32} {ut : xF32} {ud : Int32} {ug : Int32} {uT0 : Int32} {uT1 : xF32} {uT2 : Int32} {uT3 : Int32} {uT4 : Int32} {uT5 : xF32} {uT6 : xF32} {uT7 : xF32} {uT8 : xF32} {uG0 : Int32} {uG1 : xF32} {uG2 : xF32} {uM0 : Int32} {uM1 : Int32} {uM2 : Int32} {uM3 : Int32} {uM4 : Int32} {uF0 : Int32} {uF1 : xF64} {uF2 : xF64} {uF3 : xF64} {uF4 : xF64} {uF5 : Int32} {uF6 : Int32} {uF7 : Int32} {uF8 : xF32} {uF9 : Int32} {uF10 : Int32} {uF11 : Int64} {uF12 : xF32} {uF13 : Int32} {uF14 : Int32} {uF15 : Int32} {uF16 : xF32} {uF17 : xF32} {uF18 : Int32} {uo : xF64} {uv : Nat → UInt64} {yA : Nat → sAcc} {yC : sCla} {yJ : sJou} {yM1 : Int32} {yM2 : Int32} {yM3 : Int32} {yF0 : Int32} {yF1 : xF64} {yF3 : xF64} {yF4 : xF64} {yF5 : Int32} {yF7 : Int32} {yF11 : Int64} {yo : xF64} {A : Nat → Prop} {p : Program} {e : Env} {s : State} {m : MethodId} {args : Array Value} {below : List Frame} {meth : Method} {c : Code} {Q : State → Prop} {b L i kc ks : Nat} {xs : Nat → Int32}
    (hc : xC κ A p s m args meth c cL_law RL 9 (some .boolean)) (hlt : l.stackTraces = false) (hX : va_X b L xs s s.heap) (hbl : b < s.heap.size) (hbA : ¬ A b) (h1 : vp_in ((nI i) + 1) L) (h2 : vp_in ((nI i) + 2) L) (h3 : vp_in ((nI i) + 3) L) (e1 : xs ((nI i) + 1).toNatClampNeg = a1) (e2 : xs ((nI i) + 2).toNatClampNeg = a2) (e3 : xs ((nI i) + 3).toNatClampNeg = a3) (hz0 : kc ≤ room_1.cells ∧ ks ≤ room_1.slots) (hz1 : kc + 1 ≤ room_1.cells ∧ ks + 6 ≤ room_1.slots)
    (hf : f_C_7 fu a1 a2 uA uP uC uD uJ ur ut ud ug uM1 uM2 uM3 uF0 uF1 uF3 uF4 uF5 uF7 uF11 uo = some (yA, yC, yJ, yM1, yM2, yM3, yF0, yF1, yF3, yF4, yF5, yF7, yF11, yo))
    (K : ∀ (H : Heap) (locs : List Loc) (ls : Array Slot), xW κ A s (upA yA 0 (uP, yC, uD, yJ, ur, ut, ud, ug), (uT0, uT1, uT2, uT3, uT4, uT5, uT6, uT7, uT8), (uG0, uG1, uG2), (uM0, yM1, yM2, yM3, uM4), (yF0, yF1, uF2, yF3, yF4, yF5, uF6, yF7, uF8, uF9, uF10, yF11, uF12, uF13, uF14, uF15, uF16, uF17, uF18), yo, uv) H locs → lv_has ls 9 [(0, .ref b), (1, .ref (xAd κ 234)), (2, .ref (xAd κ 245)), (3, .ref (xAd κ 254)), (4, .ref (xAd κ 255)), (5, .int (nI i))] → W p l e room_1 s m args below meth c H locs (kc + 1) (ks + 6) Q (F0 m 2367 ls [])) :
    ∀ (H : Heap) (locs : List Loc) (ls : Array Slot), xW κ A s (upA uA 0 (uP, uC, uD, uJ, ur, ut, ud, ug), (uT0, uT1, uT2, uT3, uT4, uT5, uT6, uT7, uT8), (uG0, uG1, uG2), (uM0, uM1, uM2, uM3, uM4), (uF0, uF1, uF2, uF3, uF4, uF5, uF6, uF7, uF8, uF9, uF10, uF11, uF12, uF13, uF14, uF15, uF16, uF17, uF18), uo, uv) H locs → lv_has ls 9 [(0, .ref b), (1, .ref (xAd κ 234)), (2, .ref (xAd κ 245)), (3, .ref (xAd κ 254)), (4, .ref (xAd κ 255)), (5, .int (nI i))] → W p l e room_1 s m args below meth c H locs kc ks Q (F0 m 648 ls []) := by
  have hx := hc.1.1
  have hb := hc.1.2.1
  intro H locs ls hw hl
  unfold f_C_7 at hf
  refine lv_aload_n hx hb dL_law_648 rfl (lv_at hl 1 rfl) ?_
  refine lv_aload_n hx hb dL_law_649 rfl (lv_at hl 0 rfl) ?_
  refine lv_iload hx hb dL_law_650 (lv_at hl 5 rfl) ?_
  refine lv_iconst (v := 1) hx hb dL_law_652 (by decide) ?_
  refine lv_iadd hx hb dL_law_653 ?_
  refine va_sld hx hb hX hbl hbA hw.2 h1 dL_law_654 ?_
  rw [e1]
  refine lv_aload_n hx hb dL_law_655 rfl (lv_at hl 0 rfl) ?_
  refine lv_iload hx hb dL_law_656 (lv_at hl 5 rfl) ?_
  refine lv_iconst (v := 2) hx hb dL_law_658 (by decide) ?_
  refine lv_iadd hx hb dL_law_659 ?_
  refine va_sld hx hb hX hbl hbA hw.2 h2 dL_law_660 ?_
  rw [e2]
  refine lv_aload_n hx hb dL_law_661 rfl (lv_at hl 3 rfl) ?_
  obtain ⟨v1, uA_2, uC_3, uJ_4, uM1_5, uM2_6, uM3_7, uo_8, h9, hf⟩ := xb8_of hf
  refine x_hcalliS (As := [.ref (xAd κ 234), .int a1, .int a2, .ref (xAd κ 254)]) (rest := []) (σ' := (upA uA_2 0 (uP, uC_3, uD, uJ_4, ur, ut, ud, ug), (uT0, uT1, uT2, uT3, uT4, uT5, uT6, uT7, uT8), (uG0, uG1, uG2), (uM0, uM1_5, uM2_6, uM3_7, uM4), (uF0, uF1, uF2, uF3, uF4, uF5, uF6, uF7, uF8, uF9, uF10, uF11, uF12, uF13, uF14, uF15, uF16, uF17, uF18), uo_8, uv)) hc hw hl.1 hlt (m_L_dismiss h9) kL_167 rfl rfl ⟨rfl, rfl⟩ ⟨Nat.le_of_ble_eq_true rfl, Nat.le_of_ble_eq_true rfl⟩ hz1 (Nat.le_of_ble_eq_true rfl) dL_law_662 (fun H locs hw => ?_)
  refine lv_istore (lv' := [(6, .int v1), (0, .ref b), (1, .ref (xAd κ 234)), (2, .ref (xAd κ 245)), (3, .ref (xAd κ 254)), (4, .ref (xAd κ 255)), (5, .int (nI i))]) hx hb dL_law_665 hl (by decide) rfl (fun ls hl => ?_)
  refine lv_aload_n hx hb dL_law_667 rfl (lv_at hl 3 rfl) ?_
  refine lv_aload_n hx hb dL_law_668 rfl (lv_at hl 1 rfl) ?_
  refine lv_iload hx hb dL_law_669 (lv_at hl 6 rfl) ?_
  refine lv_iconst (v := 1) hx hb dL_law_671 (by decide) ?_
  refine lv_iadd hx hb dL_law_672 ?_
  refine va_sld hx hb hX hbl hbA hw.2 h1 dL_law_673 ?_
  rw [e1]
  refine lv_aload_n hx hb dL_law_674 rfl (lv_at hl 1 rfl) ?_
  refine lv_iload hx hb dL_law_675 (lv_at hl 6 rfl) ?_
  refine lv_iconst (v := 2) hx hb dL_law_677 (by decide) ?_
  refine lv_iadd hx hb dL_law_678 ?_
  refine va_sld hx hb hX hbl hbA hw.2 h2 dL_law_679 ?_
  rw [e2]
  obtain ⟨v10, uF0_11, uF1_12, uF3_13, uF4_14, uF5_15, uF7_16, uF11_17, h18, hf⟩ := xb8_of hf
  refine x_calliV (As := [.int a1, .int a2]) (rest := []) (σ' := (upA uA_2 0 (uP, uC_3, uD, uJ_4, ur, ut, ud, ug), (uT0, uT1, uT2, uT3, uT4, uT5, uT6, uT7, uT8), (uG0, uG1, uG2), (uM0, uM1_5, uM2_6, uM3_7, uM4), (uF0_11, uF1_12, uF2, uF3_13, uF4_14, uF5_15, uF6, uF7_16, uF8, uF9, uF10, uF11_17, uF12, uF13, uF14, uF15, uF16, uF17, uF18), uo_8, uv)) hc hw hl.1 (m_X8_dismiss h18) kL_169 co_245 rfl rfl ⟨rfl, rfl⟩ ⟨Nat.le_of_ble_eq_true rfl, Nat.le_of_ble_eq_true rfl⟩ hz1 (Nat.le_of_ble_eq_true rfl) dL_law_680 (fun H locs hw => ?_)
  refine lv_istore (lv' := [(7, .int v10), (6, .int v1), (0, .ref b), (1, .ref (xAd κ 234)), (2, .ref (xAd κ 245)), (3, .ref (xAd κ 254)), (4, .ref (xAd κ 255)), (5, .int (nI i))]) hx hb dL_law_683 hl (by decide) rfl (fun ls hl => ?_)
  refine lv_aload_n hx hb dL_law_685 rfl (lv_at hl 4 rfl) ?_
  obtain ⟨v19, h20, hf⟩ := xb1_of hf
  refine x_calliV (As := []) (rest := []) (σ' := (upA uA_2 0 (uP, uC_3, uD, uJ_4, ur, ut, ud, ug), (uT0, uT1, uT2, uT3, uT4, uT5, uT6, uT7, uT8), (uG0, uG1, uG2), (uM0, uM1_5, uM2_6, uM3_7, uM4), (uF0_11, uF1_12, uF2, uF3_13, uF4_14, uF5_15, uF6, uF7_16, uF8, uF9, uF10, uF11_17, uF12, uF13, uF14, uF15, uF16, uF17, uF18), uo_8, uv)) hc hw hl.1 (m_X8_thrown h20) kL_148 co_245 rfl rfl ⟨rfl, rfl⟩ ⟨Nat.le_of_ble_eq_true rfl, Nat.le_of_ble_eq_true rfl⟩ hz1 (Nat.le_of_ble_eq_true rfl) dL_law_686 (fun H locs hw => ?_)
  refine lv_iload hx hb dL_law_689 (lv_at hl 1 rfl) ?_
  refine lv_icmp_eq (tgt := 696) hx hb dL_law_691 (by decide) (fun c21 => ?_) (fun c21 => ?_)
  · have hf := xif_t c21 hf
    refine lv_iload hx hb dL_law_696 (lv_at hl 1 rfl) ?_
    refine lv_if_ne (tgt := 713) hx hb dL_law_698 (by decide) (fun c22 => ?_) (fun c22 => ?_)
    · have hf := xif_f c22 hf
      refine lv_goto (tgt := 2367) hx hb dL_law_713 (by decide) ?_
      cases hf
      exact K _ _ _ hw (lv_sub hl [2, 3, 4, 5, 6, 7] rfl)
    · have hf := xif_t c22 hf
      refine lv_aload_n hx hb dL_law_701 rfl (lv_at hl 5 rfl) ?_
      refine lv_iconst (v := 0) hx hb dL_law_702 (by decide) ?_
      obtain ⟨k23, hf⟩ := xk_of hf
      refine x_lald (n := 1) (f := uo_8) hc hw co_254 k23 dL_law_703 ?_
      refine lv_iload hx hb dL_law_704 (lv_at hl 0 rfl) ?_
      refine lv_i2l (v := v10.toInt64) hx hb dL_law_706 rfl ?_
      refine x_lcmp_eq (tgt := 713) hx hb dL_law_707 dL_law_708 (by decide) (fun c24 => ?_) (fun c24 => ?_)
      · have hf := xif_t c24 hf
        refine lv_goto (tgt := 2367) hx hb dL_law_713 (by decide) ?_
        cases hf
        exact K _ _ _ hw (lv_sub hl [2, 3, 4, 5, 6, 7] rfl)
      · have hf := xif_f c24 hf
        refine lv_iconst (v := 0) hx hb dL_law_711 (by decide) ?_
        cases hf
  · have hf := xif_f c21 hf
    refine lv_iconst (v := 0) hx hb dL_law_694 (by decide) ?_
    cases hf
set_option maxHeartbeats 4000000 in
set_option maxRecDepth 100000 in
theorem q_8 {l : Launch} {κ : xKt} {fu : Nat} {a1 a2 a3 : Int32} {uA : Nat → sAcc} {uP : sPar} {uC : sCla} {uD : sDeb} {uJ : sJou} {ur : xF32} {ut : xF32} {ud : Int32} {ug : Int32} {uT0 : Int32} {uT1 : xF32} {uT2 : Int32} {uT3 : Int32} {uT4 : Int32} {uT5 : xF32} {uT6 : xF32} {uT7 : xF32} {uT8 : xF32} {uG0 : Int32} {uG1 : xF32} {uG2 : xF32} {uM0 : Int32} {uM1 : Int32} {uM2 : Int32} {uM3 : Int32} {uM4 : Int32} {uF0 : Int32} {uF1 : xF64} {uF2 : xF64} {uF3 : xF64} {uF4 : xF64} {uF5 : Int32} {uF6 : Int32} {uF7 : Int32} {uF8 : xF32} {uF9 : Int32} {uF10 : Int32} {uF11 : Int64} {uF12 : xF32} {uF13 : Int32} {uF14 : Int32} {uF15 : Int32} {uF16 : xF32} {uF17 : xF32} {uF18 : Int32} {uo : xF64} {uv : Nat → UInt64} {yA : Nat → sAcc} {yC : sCla} {yJ : sJou} {yM1 : Int32} {yM2 : Int32} {yM3 : Int32} {yF0 : Int32} {yF1 : xF64} {yF3 : xF64} {yF4 : xF64} {yF5 : Int32} {yF7 : Int32} {yF11 : Int64} {yo : xF64} {A : Nat → Prop} {p : Program} {e : Env} {s : State} {m : MethodId} {args : Array Value} {below : List Frame} {meth : Method} {c : Code} {Q : State → Prop} {b L i kc ks : Nat} {xs : Nat → Int32}
    (hc : xC κ A p s m args meth c cL_law RL 9 (some .boolean)) (hlt : l.stackTraces = false) (hX : va_X b L xs s s.heap) (hbl : b < s.heap.size) (hbA : ¬ A b) (h1 : vp_in ((nI i) + 1) L) (h2 : vp_in ((nI i) + 2) L) (h3 : vp_in ((nI i) + 3) L) (e1 : xs ((nI i) + 1).toNatClampNeg = a1) (e2 : xs ((nI i) + 2).toNatClampNeg = a2) (e3 : xs ((nI i) + 3).toNatClampNeg = a3) (hz0 : kc ≤ room_1.cells ∧ ks ≤ room_1.slots) (hz1 : kc + 1 ≤ room_1.cells ∧ ks + 6 ≤ room_1.slots)
    (hf : f_C_8 fu a1 a2 uA uP uC uD uJ ur ut ud ug uM1 uM2 uM3 uF0 uF1 uF3 uF4 uF5 uF7 uF11 uo = some (yA, yC, yJ, yM1, yM2, yM3, yF0, yF1, yF3, yF4, yF5, yF7, yF11, yo))
    (K : ∀ (H : Heap) (locs : List Loc) (ls : Array Slot), xW κ A s (upA yA 0 (uP, yC, uD, yJ, ur, ut, ud, ug), (uT0, uT1, uT2, uT3, uT4, uT5, uT6, uT7, uT8), (uG0, uG1, uG2), (uM0, yM1, yM2, yM3, uM4), (yF0, yF1, uF2, yF3, yF4, yF5, uF6, yF7, uF8, uF9, uF10, yF11, uF12, uF13, uF14, uF15, uF16, uF17, uF18), yo, uv) H locs → lv_has ls 9 [(0, .ref b), (1, .ref (xAd κ 234)), (2, .ref (xAd κ 245)), (3, .ref (xAd κ 254)), (4, .ref (xAd κ 255)), (5, .int (nI i))] → W p l e room_1 s m args below meth c H locs (kc + 1) (ks + 6) Q (F0 m 2367 ls [])) :
    ∀ (H : Heap) (locs : List Loc) (ls : Array Slot), xW κ A s (upA uA 0 (uP, uC, uD, uJ, ur, ut, ud, ug), (uT0, uT1, uT2, uT3, uT4, uT5, uT6, uT7, uT8), (uG0, uG1, uG2), (uM0, uM1, uM2, uM3, uM4), (uF0, uF1, uF2, uF3, uF4, uF5, uF6, uF7, uF8, uF9, uF10, uF11, uF12, uF13, uF14, uF15, uF16, uF17, uF18), uo, uv) H locs → lv_has ls 9 [(0, .ref b), (1, .ref (xAd κ 234)), (2, .ref (xAd κ 245)), (3, .ref (xAd κ 254)), (4, .ref (xAd κ 255)), (5, .int (nI i))] → W p l e room_1 s m args below meth c H locs kc ks Q (F0 m 716 ls []) := by
  have hx := hc.1.1
  have hb := hc.1.2.1
  intro H locs ls hw hl
  unfold f_C_8 at hf
  refine lv_aload_n hx hb dL_law_716 rfl (lv_at hl 1 rfl) ?_
  refine lv_aload_n hx hb dL_law_717 rfl (lv_at hl 0 rfl) ?_
  refine lv_iload hx hb dL_law_718 (lv_at hl 5 rfl) ?_
  refine lv_iconst (v := 1) hx hb dL_law_720 (by decide) ?_
  refine lv_iadd hx hb dL_law_721 ?_
  refine va_sld hx hb hX hbl hbA hw.2 h1 dL_law_722 ?_
  rw [e1]
  refine lv_aload_n hx hb dL_law_723 rfl (lv_at hl 0 rfl) ?_
  refine lv_iload hx hb dL_law_724 (lv_at hl 5 rfl) ?_
  refine lv_iconst (v := 2) hx hb dL_law_726 (by decide) ?_
  refine lv_iadd hx hb dL_law_727 ?_
  refine va_sld hx hb hX hbl hbA hw.2 h2 dL_law_728 ?_
  rw [e2]
  refine lv_aload_n hx hb dL_law_729 rfl (lv_at hl 3 rfl) ?_
  obtain ⟨v1, uA_2, uC_3, uJ_4, uM1_5, uM2_6, uM3_7, uo_8, h9, hf⟩ := xb8_of hf
  refine x_hcalliS (As := [.ref (xAd κ 234), .int a1, .int a2, .ref (xAd κ 254)]) (rest := []) (σ' := (upA uA_2 0 (uP, uC_3, uD, uJ_4, ur, ut, ud, ug), (uT0, uT1, uT2, uT3, uT4, uT5, uT6, uT7, uT8), (uG0, uG1, uG2), (uM0, uM1_5, uM2_6, uM3_7, uM4), (uF0, uF1, uF2, uF3, uF4, uF5, uF6, uF7, uF8, uF9, uF10, uF11, uF12, uF13, uF14, uF15, uF16, uF17, uF18), uo_8, uv)) hc hw hl.1 hlt (m_L_withdraw h9) kL_170 rfl rfl ⟨rfl, rfl⟩ ⟨Nat.le_of_ble_eq_true rfl, Nat.le_of_ble_eq_true rfl⟩ hz1 (Nat.le_of_ble_eq_true rfl) dL_law_730 (fun H locs hw => ?_)
  refine lv_istore (lv' := [(6, .int v1), (0, .ref b), (1, .ref (xAd κ 234)), (2, .ref (xAd κ 245)), (3, .ref (xAd κ 254)), (4, .ref (xAd κ 255)), (5, .int (nI i))]) hx hb dL_law_733 hl (by decide) rfl (fun ls hl => ?_)
  refine lv_aload_n hx hb dL_law_735 rfl (lv_at hl 3 rfl) ?_
  refine lv_aload_n hx hb dL_law_736 rfl (lv_at hl 1 rfl) ?_
  refine lv_iload hx hb dL_law_737 (lv_at hl 6 rfl) ?_
  refine lv_iconst (v := 1) hx hb dL_law_739 (by decide) ?_
  refine lv_iadd hx hb dL_law_740 ?_
  refine va_sld hx hb hX hbl hbA hw.2 h1 dL_law_741 ?_
  rw [e1]
  refine lv_aload_n hx hb dL_law_742 rfl (lv_at hl 1 rfl) ?_
  refine lv_iload hx hb dL_law_743 (lv_at hl 6 rfl) ?_
  refine lv_iconst (v := 2) hx hb dL_law_745 (by decide) ?_
  refine lv_iadd hx hb dL_law_746 ?_
  refine va_sld hx hb hX hbl hbA hw.2 h2 dL_law_747 ?_
  rw [e2]
  obtain ⟨v10, uF0_11, uF1_12, uF3_13, uF4_14, uF5_15, uF7_16, uF11_17, h18, hf⟩ := xb8_of hf
  refine x_calliV (As := [.int a1, .int a2]) (rest := []) (σ' := (upA uA_2 0 (uP, uC_3, uD, uJ_4, ur, ut, ud, ug), (uT0, uT1, uT2, uT3, uT4, uT5, uT6, uT7, uT8), (uG0, uG1, uG2), (uM0, uM1_5, uM2_6, uM3_7, uM4), (uF0_11, uF1_12, uF2, uF3_13, uF4_14, uF5_15, uF6, uF7_16, uF8, uF9, uF10, uF11_17, uF12, uF13, uF14, uF15, uF16, uF17, uF18), uo_8, uv)) hc hw hl.1 (m_X8_withdraw h18) kL_172 co_245 rfl rfl ⟨rfl, rfl⟩ ⟨Nat.le_of_ble_eq_true rfl, Nat.le_of_ble_eq_true rfl⟩ hz1 (Nat.le_of_ble_eq_true rfl) dL_law_748 (fun H locs hw => ?_)
  refine lv_istore (lv' := [(7, .int v10), (6, .int v1), (0, .ref b), (1, .ref (xAd κ 234)), (2, .ref (xAd κ 245)), (3, .ref (xAd κ 254)), (4, .ref (xAd κ 255)), (5, .int (nI i))]) hx hb dL_law_751 hl (by decide) rfl (fun ls hl => ?_)
  refine lv_aload_n hx hb dL_law_753 rfl (lv_at hl 4 rfl) ?_
  obtain ⟨v19, h20, hf⟩ := xb1_of hf
  refine x_calliV (As := []) (rest := []) (σ' := (upA uA_2 0 (uP, uC_3, uD, uJ_4, ur, ut, ud, ug), (uT0, uT1, uT2, uT3, uT4, uT5, uT6, uT7, uT8), (uG0, uG1, uG2), (uM0, uM1_5, uM2_6, uM3_7, uM4), (uF0_11, uF1_12, uF2, uF3_13, uF4_14, uF5_15, uF6, uF7_16, uF8, uF9, uF10, uF11_17, uF12, uF13, uF14, uF15, uF16, uF17, uF18), uo_8, uv)) hc hw hl.1 (m_X8_thrown h20) kL_148 co_245 rfl rfl ⟨rfl, rfl⟩ ⟨Nat.le_of_ble_eq_true rfl, Nat.le_of_ble_eq_true rfl⟩ hz1 (Nat.le_of_ble_eq_true rfl) dL_law_754 (fun H locs hw => ?_)
  refine lv_iload hx hb dL_law_757 (lv_at hl 1 rfl) ?_
  refine lv_icmp_eq (tgt := 764) hx hb dL_law_759 (by decide) (fun c21 => ?_) (fun c21 => ?_)
  · have hf := xif_t c21 hf
    refine lv_iload hx hb dL_law_764 (lv_at hl 1 rfl) ?_
    refine lv_if_ne (tgt := 781) hx hb dL_law_766 (by decide) (fun c22 => ?_) (fun c22 => ?_)
    · have hf := xif_f c22 hf
      refine lv_goto (tgt := 2367) hx hb dL_law_781 (by decide) ?_
      cases hf
      exact K _ _ _ hw (lv_sub hl [2, 3, 4, 5, 6, 7] rfl)
    · have hf := xif_t c22 hf
      refine lv_aload_n hx hb dL_law_769 rfl (lv_at hl 5 rfl) ?_
      refine lv_iconst (v := 0) hx hb dL_law_770 (by decide) ?_
      obtain ⟨k23, hf⟩ := xk_of hf
      refine x_lald (n := 1) (f := uo_8) hc hw co_254 k23 dL_law_771 ?_
      refine lv_iload hx hb dL_law_772 (lv_at hl 0 rfl) ?_
      refine lv_i2l (v := v10.toInt64) hx hb dL_law_774 rfl ?_
      refine x_lcmp_eq (tgt := 781) hx hb dL_law_775 dL_law_776 (by decide) (fun c24 => ?_) (fun c24 => ?_)
      · have hf := xif_t c24 hf
        refine lv_goto (tgt := 2367) hx hb dL_law_781 (by decide) ?_
        cases hf
        exact K _ _ _ hw (lv_sub hl [2, 3, 4, 5, 6, 7] rfl)
      · have hf := xif_f c24 hf
        refine lv_iconst (v := 0) hx hb dL_law_779 (by decide) ?_
        cases hf
  · have hf := xif_f c21 hf
    refine lv_iconst (v := 0) hx hb dL_law_762 (by decide) ?_
    cases hf
set_option maxHeartbeats 4000000 in
set_option maxRecDepth 100000 in
theorem q_9 {l : Launch} {κ : xKt} {fu : Nat} {a1 a2 a3 : Int32} {uA : Nat → sAcc} {uP : sPar} {uC : sCla} {uD : sDeb} {uJ : sJou} {ur : xF32} {ut : xF32} {ud : Int32} {ug : Int32} {uT0 : Int32} {uT1 : xF32} {uT2 : Int32} {uT3 : Int32} {uT4 : Int32} {uT5 : xF32} {uT6 : xF32} {uT7 : xF32} {uT8 : xF32} {uG0 : Int32} {uG1 : xF32} {uG2 : xF32} {uM0 : Int32} {uM1 : Int32} {uM2 : Int32} {uM3 : Int32} {uM4 : Int32} {uF0 : Int32} {uF1 : xF64} {uF2 : xF64} {uF3 : xF64} {uF4 : xF64} {uF5 : Int32} {uF6 : Int32} {uF7 : Int32} {uF8 : xF32} {uF9 : Int32} {uF10 : Int32} {uF11 : Int64} {uF12 : xF32} {uF13 : Int32} {uF14 : Int32} {uF15 : Int32} {uF16 : xF32} {uF17 : xF32} {uF18 : Int32} {uo : xF64} {uv : Nat → UInt64} {yM3 : Int32} {yF0 : Int32} {yo : xF64} {A : Nat → Prop} {p : Program} {e : Env} {s : State} {m : MethodId} {args : Array Value} {below : List Frame} {meth : Method} {c : Code} {Q : State → Prop} {b L i kc ks : Nat} {xs : Nat → Int32}
    (hc : xC κ A p s m args meth c cL_law RL 9 (some .boolean)) (hlt : l.stackTraces = false) (hX : va_X b L xs s s.heap) (hbl : b < s.heap.size) (hbA : ¬ A b) (h1 : vp_in ((nI i) + 1) L) (h2 : vp_in ((nI i) + 2) L) (h3 : vp_in ((nI i) + 3) L) (e1 : xs ((nI i) + 1).toNatClampNeg = a1) (e2 : xs ((nI i) + 2).toNatClampNeg = a2) (e3 : xs ((nI i) + 3).toNatClampNeg = a3) (hz0 : kc ≤ room_1.cells ∧ ks ≤ room_1.slots) (hz1 : kc + 1 ≤ room_1.cells ∧ ks + 6 ≤ room_1.slots)
    (hf : f_C_9 fu a1 a2 uC uM3 uF0 uF1 uo = some (yM3, yF0, yo))
    (K : ∀ (H : Heap) (locs : List Loc) (ls : Array Slot), xW κ A s (upA uA 0 (uP, uC, uD, uJ, ur, ut, ud, ug), (uT0, uT1, uT2, uT3, uT4, uT5, uT6, uT7, uT8), (uG0, uG1, uG2), (uM0, uM1, uM2, yM3, uM4), (yF0, uF1, uF2, uF3, uF4, uF5, uF6, uF7, uF8, uF9, uF10, uF11, uF12, uF13, uF14, uF15, uF16, uF17, uF18), yo, uv) H locs → lv_has ls 9 [(0, .ref b), (1, .ref (xAd κ 234)), (2, .ref (xAd κ 245)), (3, .ref (xAd κ 254)), (4, .ref (xAd κ 255)), (5, .int (nI i))] → W p l e room_1 s m args below meth c H locs (kc + 1) (ks + 6) Q (F0 m 2367 ls [])) :
    ∀ (H : Heap) (locs : List Loc) (ls : Array Slot), xW κ A s (upA uA 0 (uP, uC, uD, uJ, ur, ut, ud, ug), (uT0, uT1, uT2, uT3, uT4, uT5, uT6, uT7, uT8), (uG0, uG1, uG2), (uM0, uM1, uM2, uM3, uM4), (uF0, uF1, uF2, uF3, uF4, uF5, uF6, uF7, uF8, uF9, uF10, uF11, uF12, uF13, uF14, uF15, uF16, uF17, uF18), uo, uv) H locs → lv_has ls 9 [(0, .ref b), (1, .ref (xAd κ 234)), (2, .ref (xAd κ 245)), (3, .ref (xAd κ 254)), (4, .ref (xAd κ 255)), (5, .int (nI i))] → W p l e room_1 s m args below meth c H locs kc ks Q (F0 m 784 ls []) := by
  have hx := hc.1.1
  have hb := hc.1.2.1
  intro H locs ls hw hl
  unfold f_C_9 at hf
  refine lv_aload_n hx hb dL_law_784 rfl (lv_at hl 1 rfl) ?_
  refine lv_aload_n hx hb dL_law_785 rfl (lv_at hl 0 rfl) ?_
  refine lv_iload hx hb dL_law_786 (lv_at hl 5 rfl) ?_
  refine lv_iconst (v := 1) hx hb dL_law_788 (by decide) ?_
  refine lv_iadd hx hb dL_law_789 ?_
  refine va_sld hx hb hX hbl hbA hw.2 h1 dL_law_790 ?_
  rw [e1]
  refine lv_aload_n hx hb dL_law_791 rfl (lv_at hl 0 rfl) ?_
  refine lv_iload hx hb dL_law_792 (lv_at hl 5 rfl) ?_
  refine lv_iconst (v := 2) hx hb dL_law_794 (by decide) ?_
  refine lv_iadd hx hb dL_law_795 ?_
  refine va_sld hx hb hX hbl hbA hw.2 h2 dL_law_796 ?_
  rw [e2]
  refine lv_aload_n hx hb dL_law_797 rfl (lv_at hl 3 rfl) ?_
  obtain ⟨v1, uM3_2, uo_3, h4, hf⟩ := xb3_of hf
  refine x_hcalliS (As := [.ref (xAd κ 234), .int a1, .int a2, .ref (xAd κ 254)]) (rest := []) (σ' := (upA uA 0 (uP, uC, uD, uJ, ur, ut, ud, ug), (uT0, uT1, uT2, uT3, uT4, uT5, uT6, uT7, uT8), (uG0, uG1, uG2), (uM0, uM1, uM2, uM3_2, uM4), (uF0, uF1, uF2, uF3, uF4, uF5, uF6, uF7, uF8, uF9, uF10, uF11, uF12, uF13, uF14, uF15, uF16, uF17, uF18), uo_3, uv)) hc hw hl.1 hlt (m_L_claimed h4) kL_173 rfl rfl ⟨rfl, rfl⟩ ⟨Nat.le_of_ble_eq_true rfl, Nat.le_of_ble_eq_true rfl⟩ hz1 (Nat.le_of_ble_eq_true rfl) dL_law_798 (fun H locs hw => ?_)
  refine lv_istore (lv' := [(6, .int v1), (0, .ref b), (1, .ref (xAd κ 234)), (2, .ref (xAd κ 245)), (3, .ref (xAd κ 254)), (4, .ref (xAd κ 255)), (5, .int (nI i))]) hx hb dL_law_801 hl (by decide) rfl (fun ls hl => ?_)
  refine lv_aload_n hx hb dL_law_803 rfl (lv_at hl 3 rfl) ?_
  refine lv_aload_n hx hb dL_law_804 rfl (lv_at hl 1 rfl) ?_
  refine lv_iload hx hb dL_law_805 (lv_at hl 6 rfl) ?_
  refine lv_iconst (v := 1) hx hb dL_law_807 (by decide) ?_
  refine lv_iadd hx hb dL_law_808 ?_
  refine va_sld hx hb hX hbl hbA hw.2 h1 dL_law_809 ?_
  rw [e1]
  refine lv_aload_n hx hb dL_law_810 rfl (lv_at hl 1 rfl) ?_
  refine lv_iload hx hb dL_law_811 (lv_at hl 6 rfl) ?_
  refine lv_iconst (v := 2) hx hb dL_law_813 (by decide) ?_
  refine lv_iadd hx hb dL_law_814 ?_
  refine va_sld hx hb hX hbl hbA hw.2 h2 dL_law_815 ?_
  rw [e2]
  obtain ⟨v5, uF0_6, h7, hf⟩ := xb2_of hf
  refine x_calliV (As := [.int a1, .int a2]) (rest := []) (σ' := (upA uA 0 (uP, uC, uD, uJ, ur, ut, ud, ug), (uT0, uT1, uT2, uT3, uT4, uT5, uT6, uT7, uT8), (uG0, uG1, uG2), (uM0, uM1, uM2, uM3_2, uM4), (uF0_6, uF1, uF2, uF3, uF4, uF5, uF6, uF7, uF8, uF9, uF10, uF11, uF12, uF13, uF14, uF15, uF16, uF17, uF18), uo_3, uv)) hc hw hl.1 (m_X8_claimed h7) kL_175 co_245 rfl rfl ⟨rfl, rfl⟩ ⟨Nat.le_of_ble_eq_true rfl, Nat.le_of_ble_eq_true rfl⟩ hz1 (Nat.le_of_ble_eq_true rfl) dL_law_816 (fun H locs hw => ?_)
  refine lv_istore (lv' := [(7, .int v5), (6, .int v1), (0, .ref b), (1, .ref (xAd κ 234)), (2, .ref (xAd κ 245)), (3, .ref (xAd κ 254)), (4, .ref (xAd κ 255)), (5, .int (nI i))]) hx hb dL_law_819 hl (by decide) rfl (fun ls hl => ?_)
  refine lv_aload_n hx hb dL_law_821 rfl (lv_at hl 4 rfl) ?_
  obtain ⟨v8, h9, hf⟩ := xb1_of hf
  refine x_calliV (As := []) (rest := []) (σ' := (upA uA 0 (uP, uC, uD, uJ, ur, ut, ud, ug), (uT0, uT1, uT2, uT3, uT4, uT5, uT6, uT7, uT8), (uG0, uG1, uG2), (uM0, uM1, uM2, uM3_2, uM4), (uF0_6, uF1, uF2, uF3, uF4, uF5, uF6, uF7, uF8, uF9, uF10, uF11, uF12, uF13, uF14, uF15, uF16, uF17, uF18), uo_3, uv)) hc hw hl.1 (m_X8_thrown h9) kL_148 co_245 rfl rfl ⟨rfl, rfl⟩ ⟨Nat.le_of_ble_eq_true rfl, Nat.le_of_ble_eq_true rfl⟩ hz1 (Nat.le_of_ble_eq_true rfl) dL_law_822 (fun H locs hw => ?_)
  refine lv_iload hx hb dL_law_825 (lv_at hl 1 rfl) ?_
  refine lv_icmp_eq (tgt := 832) hx hb dL_law_827 (by decide) (fun c10 => ?_) (fun c10 => ?_)
  · have hf := xif_t c10 hf
    refine lv_iload hx hb dL_law_832 (lv_at hl 1 rfl) ?_
    refine lv_if_ne (tgt := 849) hx hb dL_law_834 (by decide) (fun c11 => ?_) (fun c11 => ?_)
    · have hf := xif_f c11 hf
      refine lv_goto (tgt := 2367) hx hb dL_law_849 (by decide) ?_
      cases hf
      exact K _ _ _ hw (lv_sub hl [2, 3, 4, 5, 6, 7] rfl)
    · have hf := xif_t c11 hf
      refine lv_aload_n hx hb dL_law_837 rfl (lv_at hl 5 rfl) ?_
      refine lv_iconst (v := 0) hx hb dL_law_838 (by decide) ?_
      obtain ⟨k12, hf⟩ := xk_of hf
      refine x_lald (n := 1) (f := uo_3) hc hw co_254 k12 dL_law_839 ?_
      refine lv_iload hx hb dL_law_840 (lv_at hl 0 rfl) ?_
      refine lv_i2l (v := v5.toInt64) hx hb dL_law_842 rfl ?_
      refine x_lcmp_eq (tgt := 849) hx hb dL_law_843 dL_law_844 (by decide) (fun c13 => ?_) (fun c13 => ?_)
      · have hf := xif_t c13 hf
        refine lv_goto (tgt := 2367) hx hb dL_law_849 (by decide) ?_
        cases hf
        exact K _ _ _ hw (lv_sub hl [2, 3, 4, 5, 6, 7] rfl)
      · have hf := xif_f c13 hf
        refine lv_iconst (v := 0) hx hb dL_law_847 (by decide) ?_
        cases hf
  · have hf := xif_f c10 hf
    refine lv_iconst (v := 0) hx hb dL_law_830 (by decide) ?_
    cases hf
set_option maxHeartbeats 4000000 in
set_option maxRecDepth 100000 in
theorem q_10 {l : Launch} {κ : xKt} {fu : Nat} {a1 a2 a3 : Int32} {uA : Nat → sAcc} {uP : sPar} {uC : sCla} {uD : sDeb} {uJ : sJou} {ur : xF32} {ut : xF32} {ud : Int32} {ug : Int32} {uT0 : Int32} {uT1 : xF32} {uT2 : Int32} {uT3 : Int32} {uT4 : Int32} {uT5 : xF32} {uT6 : xF32} {uT7 : xF32} {uT8 : xF32} {uG0 : Int32} {uG1 : xF32} {uG2 : xF32} {uM0 : Int32} {uM1 : Int32} {uM2 : Int32} {uM3 : Int32} {uM4 : Int32} {uF0 : Int32} {uF1 : xF64} {uF2 : xF64} {uF3 : xF64} {uF4 : xF64} {uF5 : Int32} {uF6 : Int32} {uF7 : Int32} {uF8 : xF32} {uF9 : Int32} {uF10 : Int32} {uF11 : Int64} {uF12 : xF32} {uF13 : Int32} {uF14 : Int32} {uF15 : Int32} {uF16 : xF32} {uF17 : xF32} {uF18 : Int32} {uo : xF64} {uv : Nat → UInt64} {yF0 : Int32} {yo : xF64} {A : Nat → Prop} {p : Program} {e : Env} {s : State} {m : MethodId} {args : Array Value} {below : List Frame} {meth : Method} {c : Code} {Q : State → Prop} {b L i kc ks : Nat} {xs : Nat → Int32}
    (hc : xC κ A p s m args meth c cL_law RL 9 (some .boolean)) (hlt : l.stackTraces = false) (hX : va_X b L xs s s.heap) (hbl : b < s.heap.size) (hbA : ¬ A b) (h1 : vp_in ((nI i) + 1) L) (h2 : vp_in ((nI i) + 2) L) (h3 : vp_in ((nI i) + 3) L) (e1 : xs ((nI i) + 1).toNatClampNeg = a1) (e2 : xs ((nI i) + 2).toNatClampNeg = a2) (e3 : xs ((nI i) + 3).toNatClampNeg = a3) (hz0 : kc ≤ room_1.cells ∧ ks ≤ room_1.slots) (hz1 : kc + 1 ≤ room_1.cells ∧ ks + 6 ≤ room_1.slots)
    (hf : f_C_10 fu uM3 uF0 uF7 uo = some (yF0, yo))
    (K : ∀ (H : Heap) (locs : List Loc) (ls : Array Slot), xW κ A s (upA uA 0 (uP, uC, uD, uJ, ur, ut, ud, ug), (uT0, uT1, uT2, uT3, uT4, uT5, uT6, uT7, uT8), (uG0, uG1, uG2), (uM0, uM1, uM2, uM3, uM4), (yF0, uF1, uF2, uF3, uF4, uF5, uF6, uF7, uF8, uF9, uF10, uF11, uF12, uF13, uF14, uF15, uF16, uF17, uF18), yo, uv) H locs → lv_has ls 9 [(0, .ref b), (1, .ref (xAd κ 234)), (2, .ref (xAd κ 245)), (3, .ref (xAd κ 254)), (4, .ref (xAd κ 255)), (5, .int (nI i))] → W p l e room_1 s m args below meth c H locs (kc + 1) (ks + 6) Q (F0 m 2367 ls [])) :
    ∀ (H : Heap) (locs : List Loc) (ls : Array Slot), xW κ A s (upA uA 0 (uP, uC, uD, uJ, ur, ut, ud, ug), (uT0, uT1, uT2, uT3, uT4, uT5, uT6, uT7, uT8), (uG0, uG1, uG2), (uM0, uM1, uM2, uM3, uM4), (uF0, uF1, uF2, uF3, uF4, uF5, uF6, uF7, uF8, uF9, uF10, uF11, uF12, uF13, uF14, uF15, uF16, uF17, uF18), uo, uv) H locs → lv_has ls 9 [(0, .ref b), (1, .ref (xAd κ 234)), (2, .ref (xAd κ 245)), (3, .ref (xAd κ 254)), (4, .ref (xAd κ 255)), (5, .int (nI i))] → W p l e room_1 s m args below meth c H locs kc ks Q (F0 m 852 ls []) := by
  have hx := hc.1.1
  have hb := hc.1.2.1
  intro H locs ls hw hl
  unfold f_C_10 at hf
  refine lv_aload_n hx hb dL_law_852 rfl (lv_at hl 1 rfl) ?_
  refine lv_aload_n hx hb dL_law_853 rfl (lv_at hl 3 rfl) ?_
  obtain ⟨v1, uo_2, h3, hf⟩ := xb2_of hf
  refine x_hcalliS (As := [.ref (xAd κ 234), .ref (xAd κ 254)]) (rest := []) (σ' := (upA uA 0 (uP, uC, uD, uJ, ur, ut, ud, ug), (uT0, uT1, uT2, uT3, uT4, uT5, uT6, uT7, uT8), (uG0, uG1, uG2), (uM0, uM1, uM2, uM3, uM4), (uF0, uF1, uF2, uF3, uF4, uF5, uF6, uF7, uF8, uF9, uF10, uF11, uF12, uF13, uF14, uF15, uF16, uF17, uF18), uo_2, uv)) hc hw hl.1 hlt (m_L_reason h3) kL_176 rfl rfl ⟨rfl, rfl⟩ ⟨Nat.le_of_ble_eq_true rfl, Nat.le_of_ble_eq_true rfl⟩ hz1 (Nat.le_of_ble_eq_true rfl) dL_law_854 (fun H locs hw => ?_)
  refine lv_istore (lv' := [(6, .int v1), (0, .ref b), (1, .ref (xAd κ 234)), (2, .ref (xAd κ 245)), (3, .ref (xAd κ 254)), (4, .ref (xAd κ 255)), (5, .int (nI i))]) hx hb dL_law_857 hl (by decide) rfl (fun ls hl => ?_)
  refine lv_aload_n hx hb dL_law_859 rfl (lv_at hl 3 rfl) ?_
  obtain ⟨v4, uF0_5, h6, hf⟩ := xb2_of hf
  refine x_calliV (As := []) (rest := []) (σ' := (upA uA 0 (uP, uC, uD, uJ, ur, ut, ud, ug), (uT0, uT1, uT2, uT3, uT4, uT5, uT6, uT7, uT8), (uG0, uG1, uG2), (uM0, uM1, uM2, uM3, uM4), (uF0_5, uF1, uF2, uF3, uF4, uF5, uF6, uF7, uF8, uF9, uF10, uF11, uF12, uF13, uF14, uF15, uF16, uF17, uF18), uo_2, uv)) hc hw hl.1 (m_X8_reason h6) kL_179 co_245 rfl rfl ⟨rfl, rfl⟩ ⟨Nat.le_of_ble_eq_true rfl, Nat.le_of_ble_eq_true rfl⟩ hz1 (Nat.le_of_ble_eq_true rfl) dL_law_860 (fun H locs hw => ?_)
  refine lv_istore (lv' := [(7, .int v4), (6, .int v1), (0, .ref b), (1, .ref (xAd κ 234)), (2, .ref (xAd κ 245)), (3, .ref (xAd κ 254)), (4, .ref (xAd κ 255)), (5, .int (nI i))]) hx hb dL_law_863 hl (by decide) rfl (fun ls hl => ?_)
  refine lv_aload_n hx hb dL_law_865 rfl (lv_at hl 4 rfl) ?_
  obtain ⟨v7, h8, hf⟩ := xb1_of hf
  refine x_calliV (As := []) (rest := []) (σ' := (upA uA 0 (uP, uC, uD, uJ, ur, ut, ud, ug), (uT0, uT1, uT2, uT3, uT4, uT5, uT6, uT7, uT8), (uG0, uG1, uG2), (uM0, uM1, uM2, uM3, uM4), (uF0_5, uF1, uF2, uF3, uF4, uF5, uF6, uF7, uF8, uF9, uF10, uF11, uF12, uF13, uF14, uF15, uF16, uF17, uF18), uo_2, uv)) hc hw hl.1 (m_X8_thrown h8) kL_148 co_245 rfl rfl ⟨rfl, rfl⟩ ⟨Nat.le_of_ble_eq_true rfl, Nat.le_of_ble_eq_true rfl⟩ hz1 (Nat.le_of_ble_eq_true rfl) dL_law_866 (fun H locs hw => ?_)
  refine lv_iload hx hb dL_law_869 (lv_at hl 1 rfl) ?_
  refine lv_icmp_eq (tgt := 876) hx hb dL_law_871 (by decide) (fun c9 => ?_) (fun c9 => ?_)
  · have hf := xif_t c9 hf
    refine lv_iload hx hb dL_law_876 (lv_at hl 1 rfl) ?_
    refine lv_if_ne (tgt := 893) hx hb dL_law_878 (by decide) (fun c10 => ?_) (fun c10 => ?_)
    · have hf := xif_f c10 hf
      refine lv_goto (tgt := 2367) hx hb dL_law_893 (by decide) ?_
      cases hf
      exact K _ _ _ hw (lv_sub hl [2, 3, 4, 5, 6, 7] rfl)
    · have hf := xif_t c10 hf
      refine lv_aload_n hx hb dL_law_881 rfl (lv_at hl 5 rfl) ?_
      refine lv_iconst (v := 0) hx hb dL_law_882 (by decide) ?_
      obtain ⟨k11, hf⟩ := xk_of hf
      refine x_lald (n := 1) (f := uo_2) hc hw co_254 k11 dL_law_883 ?_
      refine lv_iload hx hb dL_law_884 (lv_at hl 0 rfl) ?_
      refine lv_i2l (v := v4.toInt64) hx hb dL_law_886 rfl ?_
      refine x_lcmp_eq (tgt := 893) hx hb dL_law_887 dL_law_888 (by decide) (fun c12 => ?_) (fun c12 => ?_)
      · have hf := xif_t c12 hf
        refine lv_goto (tgt := 2367) hx hb dL_law_893 (by decide) ?_
        cases hf
        exact K _ _ _ hw (lv_sub hl [2, 3, 4, 5, 6, 7] rfl)
      · have hf := xif_f c12 hf
        refine lv_iconst (v := 0) hx hb dL_law_891 (by decide) ?_
        cases hf
  · have hf := xif_f c9 hf
    refine lv_iconst (v := 0) hx hb dL_law_874 (by decide) ?_
    cases hf
set_option maxHeartbeats 4000000 in
set_option maxRecDepth 100000 in
theorem q_11 {l : Launch} {κ : xKt} {fu : Nat} {a1 a2 a3 : Int32} {uA : Nat → sAcc} {uP : sPar} {uC : sCla} {uD : sDeb} {uJ : sJou} {ur : xF32} {ut : xF32} {ud : Int32} {ug : Int32} {uT0 : Int32} {uT1 : xF32} {uT2 : Int32} {uT3 : Int32} {uT4 : Int32} {uT5 : xF32} {uT6 : xF32} {uT7 : xF32} {uT8 : xF32} {uG0 : Int32} {uG1 : xF32} {uG2 : xF32} {uM0 : Int32} {uM1 : Int32} {uM2 : Int32} {uM3 : Int32} {uM4 : Int32} {uF0 : Int32} {uF1 : xF64} {uF2 : xF64} {uF3 : xF64} {uF4 : xF64} {uF5 : Int32} {uF6 : Int32} {uF7 : Int32} {uF8 : xF32} {uF9 : Int32} {uF10 : Int32} {uF11 : Int64} {uF12 : xF32} {uF13 : Int32} {uF14 : Int32} {uF15 : Int32} {uF16 : xF32} {uF17 : xF32} {uF18 : Int32} {uo : xF64} {uv : Nat → UInt64} {yF0 : Int32} {A : Nat → Prop} {p : Program} {e : Env} {s : State} {m : MethodId} {args : Array Value} {below : List Frame} {meth : Method} {c : Code} {Q : State → Prop} {b L i kc ks : Nat} {xs : Nat → Int32}
    (hc : xC κ A p s m args meth c cL_law RL 9 (some .boolean)) (hlt : l.stackTraces = false) (hX : va_X b L xs s s.heap) (hbl : b < s.heap.size) (hbA : ¬ A b) (h1 : vp_in ((nI i) + 1) L) (h2 : vp_in ((nI i) + 2) L) (h3 : vp_in ((nI i) + 3) L) (e1 : xs ((nI i) + 1).toNatClampNeg = a1) (e2 : xs ((nI i) + 2).toNatClampNeg = a2) (e3 : xs ((nI i) + 3).toNatClampNeg = a3) (hz0 : kc ≤ room_1.cells ∧ ks ≤ room_1.slots) (hz1 : kc + 1 ≤ room_1.cells ∧ ks + 6 ≤ room_1.slots)
    (hf : f_C_11 fu uC uF0 uF1 = some yF0)
    (K : ∀ (H : Heap) (locs : List Loc) (ls : Array Slot), xW κ A s (upA uA 0 (uP, uC, uD, uJ, ur, ut, ud, ug), (uT0, uT1, uT2, uT3, uT4, uT5, uT6, uT7, uT8), (uG0, uG1, uG2), (uM0, uM1, uM2, uM3, uM4), (yF0, uF1, uF2, uF3, uF4, uF5, uF6, uF7, uF8, uF9, uF10, uF11, uF12, uF13, uF14, uF15, uF16, uF17, uF18), uo, uv) H locs → lv_has ls 9 [(0, .ref b), (1, .ref (xAd κ 234)), (2, .ref (xAd κ 245)), (3, .ref (xAd κ 254)), (4, .ref (xAd κ 255)), (5, .int (nI i))] → W p l e room_1 s m args below meth c H locs (kc + 1) (ks + 6) Q (F0 m 2367 ls [])) :
    ∀ (H : Heap) (locs : List Loc) (ls : Array Slot), xW κ A s (upA uA 0 (uP, uC, uD, uJ, ur, ut, ud, ug), (uT0, uT1, uT2, uT3, uT4, uT5, uT6, uT7, uT8), (uG0, uG1, uG2), (uM0, uM1, uM2, uM3, uM4), (uF0, uF1, uF2, uF3, uF4, uF5, uF6, uF7, uF8, uF9, uF10, uF11, uF12, uF13, uF14, uF15, uF16, uF17, uF18), uo, uv) H locs → lv_has ls 9 [(0, .ref b), (1, .ref (xAd κ 234)), (2, .ref (xAd κ 245)), (3, .ref (xAd κ 254)), (4, .ref (xAd κ 255)), (5, .int (nI i))] → W p l e room_1 s m args below meth c H locs kc ks Q (F0 m 896 ls []) := by
  have hx := hc.1.1
  have hb := hc.1.2.1
  intro H locs ls hw hl
  unfold f_C_11 at hf
  refine lv_aload_n hx hb dL_law_896 rfl (lv_at hl 1 rfl) ?_
  obtain ⟨v1, h2, hf⟩ := xb1_of hf
  refine x_calllV (As := []) (rest := []) (σ' := (upA uA 0 (uP, uC, uD, uJ, ur, ut, ud, ug), (uT0, uT1, uT2, uT3, uT4, uT5, uT6, uT7, uT8), (uG0, uG1, uG2), (uM0, uM1, uM2, uM3, uM4), (uF0, uF1, uF2, uF3, uF4, uF5, uF6, uF7, uF8, uF9, uF10, uF11, uF12, uF13, uF14, uF15, uF16, uF17, uF18), uo, uv)) hc hw hl.1 (m_X7_inDispute h2) kL_180 co_234 rfl rfl ⟨rfl, rfl⟩ ⟨Nat.le_of_ble_eq_true rfl, Nat.le_of_ble_eq_true rfl⟩ hz0 (Nat.le_of_ble_eq_true rfl) dL_law_897 (fun H locs hw => ?_)
  refine lv_aload_n hx hb dL_law_900 rfl (lv_at hl 2 rfl) ?_
  obtain ⟨v3, uF0_4, h5, hf⟩ := xb2_of hf
  refine x_calllV (As := []) (rest := [.long v1]) (σ' := (upA uA 0 (uP, uC, uD, uJ, ur, ut, ud, ug), (uT0, uT1, uT2, uT3, uT4, uT5, uT6, uT7, uT8), (uG0, uG1, uG2), (uM0, uM1, uM2, uM3, uM4), (uF0_4, uF1, uF2, uF3, uF4, uF5, uF6, uF7, uF8, uF9, uF10, uF11, uF12, uF13, uF14, uF15, uF16, uF17, uF18), uo, uv)) hc hw hl.1 (m_X8_inDispute h5) kL_183 co_245 rfl rfl ⟨rfl, rfl⟩ ⟨Nat.le_of_ble_eq_true rfl, Nat.le_of_ble_eq_true rfl⟩ hz0 (Nat.le_of_ble_eq_true rfl) dL_law_901 (fun H locs hw => ?_)
  refine x_lcmp_eq (tgt := 2367) hx hb dL_law_904 dL_law_905 (by decide) (fun c6 => ?_) (fun c6 => ?_)
  · have hf := xif_t c6 hf
    cases hf
    exact W.widen (Nat.le_succ _) (Nat.le_add_right _ _) (K _ _ _ hw (lv_sub hl [0, 1, 2, 3, 4, 5] rfl))
  · have hf := xif_f c6 hf
    refine lv_iconst (v := 0) hx hb dL_law_908 (by decide) ?_
    cases hf
set_option maxHeartbeats 4000000 in
set_option maxRecDepth 100000 in
theorem q_12 {l : Launch} {κ : xKt} {fu : Nat} {a1 a2 a3 : Int32} {uA : Nat → sAcc} {uP : sPar} {uC : sCla} {uD : sDeb} {uJ : sJou} {ur : xF32} {ut : xF32} {ud : Int32} {ug : Int32} {uT0 : Int32} {uT1 : xF32} {uT2 : Int32} {uT3 : Int32} {uT4 : Int32} {uT5 : xF32} {uT6 : xF32} {uT7 : xF32} {uT8 : xF32} {uG0 : Int32} {uG1 : xF32} {uG2 : xF32} {uM0 : Int32} {uM1 : Int32} {uM2 : Int32} {uM3 : Int32} {uM4 : Int32} {uF0 : Int32} {uF1 : xF64} {uF2 : xF64} {uF3 : xF64} {uF4 : xF64} {uF5 : Int32} {uF6 : Int32} {uF7 : Int32} {uF8 : xF32} {uF9 : Int32} {uF10 : Int32} {uF11 : Int64} {uF12 : xF32} {uF13 : Int32} {uF14 : Int32} {uF15 : Int32} {uF16 : xF32} {uF17 : xF32} {uF18 : Int32} {uo : xF64} {uv : Nat → UInt64} {yF0 : Int32} {yo : xF64} {A : Nat → Prop} {p : Program} {e : Env} {s : State} {m : MethodId} {args : Array Value} {below : List Frame} {meth : Method} {c : Code} {Q : State → Prop} {b L i kc ks : Nat} {xs : Nat → Int32}
    (hc : xC κ A p s m args meth c cL_law RL 9 (some .boolean)) (hlt : l.stackTraces = false) (hX : va_X b L xs s s.heap) (hbl : b < s.heap.size) (hbA : ¬ A b) (h1 : vp_in ((nI i) + 1) L) (h2 : vp_in ((nI i) + 2) L) (h3 : vp_in ((nI i) + 3) L) (e1 : xs ((nI i) + 1).toNatClampNeg = a1) (e2 : xs ((nI i) + 2).toNatClampNeg = a2) (e3 : xs ((nI i) + 3).toNatClampNeg = a3) (hz0 : kc ≤ room_1.cells ∧ ks ≤ room_1.slots) (hz1 : kc + 1 ≤ room_1.cells ∧ ks + 6 ≤ room_1.slots)
    (hf : f_C_12 fu a1 uC ut uF0 uF1 uo = some (yF0, yo))
    (K : ∀ (H : Heap) (locs : List Loc) (ls : Array Slot), xW κ A s (upA uA 0 (uP, uC, uD, uJ, ur, ut, ud, ug), (uT0, uT1, uT2, uT3, uT4, uT5, uT6, uT7, uT8), (uG0, uG1, uG2), (uM0, uM1, uM2, uM3, uM4), (yF0, uF1, uF2, uF3, uF4, uF5, uF6, uF7, uF8, uF9, uF10, uF11, uF12, uF13, uF14, uF15, uF16, uF17, uF18), yo, uv) H locs → lv_has ls 9 [(0, .ref b), (1, .ref (xAd κ 234)), (2, .ref (xAd κ 245)), (3, .ref (xAd κ 254)), (4, .ref (xAd κ 255)), (5, .int (nI i))] → W p l e room_1 s m args below meth c H locs (kc + 1) (ks + 6) Q (F0 m 2367 ls [])) :
    ∀ (H : Heap) (locs : List Loc) (ls : Array Slot), xW κ A s (upA uA 0 (uP, uC, uD, uJ, ur, ut, ud, ug), (uT0, uT1, uT2, uT3, uT4, uT5, uT6, uT7, uT8), (uG0, uG1, uG2), (uM0, uM1, uM2, uM3, uM4), (uF0, uF1, uF2, uF3, uF4, uF5, uF6, uF7, uF8, uF9, uF10, uF11, uF12, uF13, uF14, uF15, uF16, uF17, uF18), uo, uv) H locs → lv_has ls 9 [(0, .ref b), (1, .ref (xAd κ 234)), (2, .ref (xAd κ 245)), (3, .ref (xAd κ 254)), (4, .ref (xAd κ 255)), (5, .int (nI i))] → W p l e room_1 s m args below meth c H locs kc ks Q (F0 m 910 ls []) := by
  have hx := hc.1.1
  have hb := hc.1.2.1
  intro H locs ls hw hl
  unfold f_C_12 at hf
  refine lv_aload_n hx hb dL_law_910 rfl (lv_at hl 1 rfl) ?_
  refine lv_aload_n hx hb dL_law_911 rfl (lv_at hl 0 rfl) ?_
  refine lv_iload hx hb dL_law_912 (lv_at hl 5 rfl) ?_
  refine lv_iconst (v := 1) hx hb dL_law_914 (by decide) ?_
  refine lv_iadd hx hb dL_law_915 ?_
  refine va_sld hx hb hX hbl hbA hw.2 h1 dL_law_916 ?_
  rw [e1]
  refine lv_aload_n hx hb dL_law_917 rfl (lv_at hl 3 rfl) ?_
  obtain ⟨v1, uo_2, h3, hf⟩ := xb2_of hf
  refine x_hcalliS (As := [.ref (xAd κ 234), .int a1, .ref (xAd κ 254)]) (rest := []) (σ' := (upA uA 0 (uP, uC, uD, uJ, ur, ut, ud, ug), (uT0, uT1, uT2, uT3, uT4, uT5, uT6, uT7, uT8), (uG0, uG1, uG2), (uM0, uM1, uM2, uM3, uM4), (uF0, uF1, uF2, uF3, uF4, uF5, uF6, uF7, uF8, uF9, uF10, uF11, uF12, uF13, uF14, uF15, uF16, uF17, uF18), uo_2, uv)) hc hw hl.1 hlt (m_L_fees h3) kL_184 rfl rfl ⟨rfl, rfl⟩ ⟨Nat.le_of_ble_eq_true rfl, Nat.le_of_ble_eq_true rfl⟩ hz1 (Nat.le_of_ble_eq_true rfl) dL_law_918 (fun H locs hw => ?_)
  refine lv_istore (lv' := [(6, .int v1), (0, .ref b), (1, .ref (xAd κ 234)), (2, .ref (xAd κ 245)), (3, .ref (xAd κ 254)), (4, .ref (xAd κ 255)), (5, .int (nI i))]) hx hb dL_law_921 hl (by decide) rfl (fun ls hl => ?_)
  refine lv_aload_n hx hb dL_law_923 rfl (lv_at hl 3 rfl) ?_
  refine lv_aload_n hx hb dL_law_924 rfl (lv_at hl 1 rfl) ?_
  refine lv_iload hx hb dL_law_925 (lv_at hl 6 rfl) ?_
  refine lv_iconst (v := 1) hx hb dL_law_927 (by decide) ?_
  refine lv_iadd hx hb dL_law_928 ?_
  refine va_sld hx hb hX hbl hbA hw.2 h1 dL_law_929 ?_
  rw [e1]
  obtain ⟨v4, uF0_5, h6, hf⟩ := xb2_of hf
  refine x_calllV (As := [.int a1]) (rest := []) (σ' := (upA uA 0 (uP, uC, uD, uJ, ur, ut, ud, ug), (uT0, uT1, uT2, uT3, uT4, uT5, uT6, uT7, uT8), (uG0, uG1, uG2), (uM0, uM1, uM2, uM3, uM4), (uF0_5, uF1, uF2, uF3, uF4, uF5, uF6, uF7, uF8, uF9, uF10, uF11, uF12, uF13, uF14, uF15, uF16, uF17, uF18), uo_2, uv)) hc hw hl.1 (m_X8_fees h6) kL_187 co_245 rfl rfl ⟨rfl, rfl⟩ ⟨Nat.le_of_ble_eq_true rfl, Nat.le_of_ble_eq_true rfl⟩ hz1 (Nat.le_of_ble_eq_true rfl) dL_law_930 (fun H locs hw => ?_)
  refine lv_lstore (lv' := [(7, .long v4), (6, .int v1), (0, .ref b), (1, .ref (xAd κ 234)), (2, .ref (xAd κ 245)), (3, .ref (xAd κ 254)), (4, .ref (xAd κ 255)), (5, .int (nI i))]) hx hb dL_law_933 hl (by decide) rfl (fun ls hl => ?_)
  refine lv_aload_n hx hb dL_law_935 rfl (lv_at hl 4 rfl) ?_
  obtain ⟨v7, h8, hf⟩ := xb1_of hf
  refine x_calliV (As := []) (rest := []) (σ' := (upA uA 0 (uP, uC, uD, uJ, ur, ut, ud, ug), (uT0, uT1, uT2, uT3, uT4, uT5, uT6, uT7, uT8), (uG0, uG1, uG2), (uM0, uM1, uM2, uM3, uM4), (uF0_5, uF1, uF2, uF3, uF4, uF5, uF6, uF7, uF8, uF9, uF10, uF11, uF12, uF13, uF14, uF15, uF16, uF17, uF18), uo_2, uv)) hc hw hl.1 (m_X8_thrown h8) kL_148 co_245 rfl rfl ⟨rfl, rfl⟩ ⟨Nat.le_of_ble_eq_true rfl, Nat.le_of_ble_eq_true rfl⟩ hz1 (Nat.le_of_ble_eq_true rfl) dL_law_936 (fun H locs hw => ?_)
  refine lv_iload hx hb dL_law_939 (lv_at hl 1 rfl) ?_
  refine lv_icmp_eq (tgt := 946) hx hb dL_law_941 (by decide) (fun c9 => ?_) (fun c9 => ?_)
  · have hf := xif_t c9 hf
    refine lv_iload hx hb dL_law_946 (lv_at hl 1 rfl) ?_
    refine lv_if_ne (tgt := 962) hx hb dL_law_948 (by decide) (fun c10 => ?_) (fun c10 => ?_)
    · have hf := xif_f c10 hf
      refine lv_goto (tgt := 2367) hx hb dL_law_962 (by decide) ?_
      cases hf
      exact K _ _ _ hw (lv_sub hl [2, 3, 4, 5, 6, 7] rfl)
    · have hf := xif_t c10 hf
      refine lv_aload_n hx hb dL_law_951 rfl (lv_at hl 5 rfl) ?_
      refine lv_iconst (v := 0) hx hb dL_law_952 (by decide) ?_
      obtain ⟨k11, hf⟩ := xk_of hf
      refine x_lald (n := 1) (f := uo_2) hc hw co_254 k11 dL_law_953 ?_
      refine lv_lload hx hb dL_law_954 (lv_at hl 0 rfl) ?_
      refine x_lcmp_eq (tgt := 962) hx hb dL_law_956 dL_law_957 (by decide) (fun c12 => ?_) (fun c12 => ?_)
      · have hf := xif_t c12 hf
        refine lv_goto (tgt := 2367) hx hb dL_law_962 (by decide) ?_
        cases hf
        exact K _ _ _ hw (lv_sub hl [2, 3, 4, 5, 6, 7] rfl)
      · have hf := xif_f c12 hf
        refine lv_iconst (v := 0) hx hb dL_law_960 (by decide) ?_
        cases hf
  · have hf := xif_f c9 hf
    refine lv_iconst (v := 0) hx hb dL_law_944 (by decide) ?_
    cases hf
set_option maxHeartbeats 4000000 in
set_option maxRecDepth 100000 in
theorem q_13 {l : Launch} {κ : xKt} {fu : Nat} {a1 a2 a3 : Int32} {uA : Nat → sAcc} {uP : sPar} {uC : sCla} {uD : sDeb} {uJ : sJou} {ur : xF32} {ut : xF32} {ud : Int32} {ug : Int32} {uT0 : Int32} {uT1 : xF32} {uT2 : Int32} {uT3 : Int32} {uT4 : Int32} {uT5 : xF32} {uT6 : xF32} {uT7 : xF32} {uT8 : xF32} {uG0 : Int32} {uG1 : xF32} {uG2 : xF32} {uM0 : Int32} {uM1 : Int32} {uM2 : Int32} {uM3 : Int32} {uM4 : Int32} {uF0 : Int32} {uF1 : xF64} {uF2 : xF64} {uF3 : xF64} {uF4 : xF64} {uF5 : Int32} {uF6 : Int32} {uF7 : Int32} {uF8 : xF32} {uF9 : Int32} {uF10 : Int32} {uF11 : Int64} {uF12 : xF32} {uF13 : Int32} {uF14 : Int32} {uF15 : Int32} {uF16 : xF32} {uF17 : xF32} {uF18 : Int32} {uo : xF64} {uv : Nat → UInt64} {yF0 : Int32} {yo : xF64} {A : Nat → Prop} {p : Program} {e : Env} {s : State} {m : MethodId} {args : Array Value} {below : List Frame} {meth : Method} {c : Code} {Q : State → Prop} {b L i kc ks : Nat} {xs : Nat → Int32}
    (hc : xC κ A p s m args meth c cL_law RL 9 (some .boolean)) (hlt : l.stackTraces = false) (hX : va_X b L xs s s.heap) (hbl : b < s.heap.size) (hbA : ¬ A b) (h1 : vp_in ((nI i) + 1) L) (h2 : vp_in ((nI i) + 2) L) (h3 : vp_in ((nI i) + 3) L) (e1 : xs ((nI i) + 1).toNatClampNeg = a1) (e2 : xs ((nI i) + 2).toNatClampNeg = a2) (e3 : xs ((nI i) + 3).toNatClampNeg = a3) (hz0 : kc ≤ room_1.cells ∧ ks ≤ room_1.slots) (hz1 : kc + 1 ≤ room_1.cells ∧ ks + 6 ≤ room_1.slots)
    (hf : f_C_13 fu a1 ut uF0 uF1 uo = some (yF0, yo))
    (K : ∀ (H : Heap) (locs : List Loc) (ls : Array Slot), xW κ A s (upA uA 0 (uP, uC, uD, uJ, ur, ut, ud, ug), (uT0, uT1, uT2, uT3, uT4, uT5, uT6, uT7, uT8), (uG0, uG1, uG2), (uM0, uM1, uM2, uM3, uM4), (yF0, uF1, uF2, uF3, uF4, uF5, uF6, uF7, uF8, uF9, uF10, uF11, uF12, uF13, uF14, uF15, uF16, uF17, uF18), yo, uv) H locs → lv_has ls 9 [(0, .ref b), (1, .ref (xAd κ 234)), (2, .ref (xAd κ 245)), (3, .ref (xAd κ 254)), (4, .ref (xAd κ 255)), (5, .int (nI i))] → W p l e room_1 s m args below meth c H locs (kc + 1) (ks + 6) Q (F0 m 2367 ls [])) :
    ∀ (H : Heap) (locs : List Loc) (ls : Array Slot), xW κ A s (upA uA 0 (uP, uC, uD, uJ, ur, ut, ud, ug), (uT0, uT1, uT2, uT3, uT4, uT5, uT6, uT7, uT8), (uG0, uG1, uG2), (uM0, uM1, uM2, uM3, uM4), (uF0, uF1, uF2, uF3, uF4, uF5, uF6, uF7, uF8, uF9, uF10, uF11, uF12, uF13, uF14, uF15, uF16, uF17, uF18), uo, uv) H locs → lv_has ls 9 [(0, .ref b), (1, .ref (xAd κ 234)), (2, .ref (xAd κ 245)), (3, .ref (xAd κ 254)), (4, .ref (xAd κ 255)), (5, .int (nI i))] → W p l e room_1 s m args below meth c H locs kc ks Q (F0 m 965 ls []) := by
  have hx := hc.1.1
  have hb := hc.1.2.1
  intro H locs ls hw hl
  unfold f_C_13 at hf
  refine lv_aload_n hx hb dL_law_965 rfl (lv_at hl 1 rfl) ?_
  refine lv_aload_n hx hb dL_law_966 rfl (lv_at hl 0 rfl) ?_
  refine lv_iload hx hb dL_law_967 (lv_at hl 5 rfl) ?_
  refine lv_iconst (v := 1) hx hb dL_law_969 (by decide) ?_
  refine lv_iadd hx hb dL_law_970 ?_
  refine va_sld hx hb hX hbl hbA hw.2 h1 dL_law_971 ?_
  rw [e1]
  refine lv_aload_n hx hb dL_law_972 rfl (lv_at hl 3 rfl) ?_
  obtain ⟨v1, uo_2, h3, hf⟩ := xb2_of hf
  refine x_hcalliS (As := [.ref (xAd κ 234), .int a1, .ref (xAd κ 254)]) (rest := []) (σ' := (upA uA 0 (uP, uC, uD, uJ, ur, ut, ud, ug), (uT0, uT1, uT2, uT3, uT4, uT5, uT6, uT7, uT8), (uG0, uG1, uG2), (uM0, uM1, uM2, uM3, uM4), (uF0, uF1, uF2, uF3, uF4, uF5, uF6, uF7, uF8, uF9, uF10, uF11, uF12, uF13, uF14, uF15, uF16, uF17, uF18), uo_2, uv)) hc hw hl.1 hlt (m_L_wouldBe h3) kL_188 rfl rfl ⟨rfl, rfl⟩ ⟨Nat.le_of_ble_eq_true rfl, Nat.le_of_ble_eq_true rfl⟩ hz1 (Nat.le_of_ble_eq_true rfl) dL_law_973 (fun H locs hw => ?_)
  refine lv_istore (lv' := [(6, .int v1), (0, .ref b), (1, .ref (xAd κ 234)), (2, .ref (xAd κ 245)), (3, .ref (xAd κ 254)), (4, .ref (xAd κ 255)), (5, .int (nI i))]) hx hb dL_law_976 hl (by decide) rfl (fun ls hl => ?_)
  refine lv_aload_n hx hb dL_law_978 rfl (lv_at hl 3 rfl) ?_
  refine lv_aload_n hx hb dL_law_979 rfl (lv_at hl 1 rfl) ?_
  refine lv_iload hx hb dL_law_980 (lv_at hl 6 rfl) ?_
  refine lv_iconst (v := 1) hx hb dL_law_982 (by decide) ?_
  refine lv_iadd hx hb dL_law_983 ?_
  refine va_sld hx hb hX hbl hbA hw.2 h1 dL_law_984 ?_
  rw [e1]
  obtain ⟨v4, uF0_5, h6, hf⟩ := xb2_of hf
  refine x_calllV (As := [.int a1]) (rest := []) (σ' := (upA uA 0 (uP, uC, uD, uJ, ur, ut, ud, ug), (uT0, uT1, uT2, uT3, uT4, uT5, uT6, uT7, uT8), (uG0, uG1, uG2), (uM0, uM1, uM2, uM3, uM4), (uF0_5, uF1, uF2, uF3, uF4, uF5, uF6, uF7, uF8, uF9, uF10, uF11, uF12, uF13, uF14, uF15, uF16, uF17, uF18), uo_2, uv)) hc hw hl.1 (m_X8_wouldBe h6) kL_190 co_245 rfl rfl ⟨rfl, rfl⟩ ⟨Nat.le_of_ble_eq_true rfl, Nat.le_of_ble_eq_true rfl⟩ hz1 (Nat.le_of_ble_eq_true rfl) dL_law_985 (fun H locs hw => ?_)
  refine lv_lstore (lv' := [(7, .long v4), (6, .int v1), (0, .ref b), (1, .ref (xAd κ 234)), (2, .ref (xAd κ 245)), (3, .ref (xAd κ 254)), (4, .ref (xAd κ 255)), (5, .int (nI i))]) hx hb dL_law_988 hl (by decide) rfl (fun ls hl => ?_)
  refine lv_aload_n hx hb dL_law_990 rfl (lv_at hl 4 rfl) ?_
  obtain ⟨v7, h8, hf⟩ := xb1_of hf
  refine x_calliV (As := []) (rest := []) (σ' := (upA uA 0 (uP, uC, uD, uJ, ur, ut, ud, ug), (uT0, uT1, uT2, uT3, uT4, uT5, uT6, uT7, uT8), (uG0, uG1, uG2), (uM0, uM1, uM2, uM3, uM4), (uF0_5, uF1, uF2, uF3, uF4, uF5, uF6, uF7, uF8, uF9, uF10, uF11, uF12, uF13, uF14, uF15, uF16, uF17, uF18), uo_2, uv)) hc hw hl.1 (m_X8_thrown h8) kL_148 co_245 rfl rfl ⟨rfl, rfl⟩ ⟨Nat.le_of_ble_eq_true rfl, Nat.le_of_ble_eq_true rfl⟩ hz1 (Nat.le_of_ble_eq_true rfl) dL_law_991 (fun H locs hw => ?_)
  refine lv_iload hx hb dL_law_994 (lv_at hl 1 rfl) ?_
  refine lv_icmp_eq (tgt := 1001) hx hb dL_law_996 (by decide) (fun c9 => ?_) (fun c9 => ?_)
  · have hf := xif_t c9 hf
    refine lv_iload hx hb dL_law_1001 (lv_at hl 1 rfl) ?_
    refine lv_if_ne (tgt := 1017) hx hb dL_law_1003 (by decide) (fun c10 => ?_) (fun c10 => ?_)
    · have hf := xif_f c10 hf
      refine lv_goto (tgt := 2367) hx hb dL_law_1017 (by decide) ?_
      cases hf
      exact K _ _ _ hw (lv_sub hl [2, 3, 4, 5, 6, 7] rfl)
    · have hf := xif_t c10 hf
      refine lv_aload_n hx hb dL_law_1006 rfl (lv_at hl 5 rfl) ?_
      refine lv_iconst (v := 0) hx hb dL_law_1007 (by decide) ?_
      obtain ⟨k11, hf⟩ := xk_of hf
      refine x_lald (n := 1) (f := uo_2) hc hw co_254 k11 dL_law_1008 ?_
      refine lv_lload hx hb dL_law_1009 (lv_at hl 0 rfl) ?_
      refine x_lcmp_eq (tgt := 1017) hx hb dL_law_1011 dL_law_1012 (by decide) (fun c12 => ?_) (fun c12 => ?_)
      · have hf := xif_t c12 hf
        refine lv_goto (tgt := 2367) hx hb dL_law_1017 (by decide) ?_
        cases hf
        exact K _ _ _ hw (lv_sub hl [2, 3, 4, 5, 6, 7] rfl)
      · have hf := xif_f c12 hf
        refine lv_iconst (v := 0) hx hb dL_law_1015 (by decide) ?_
        cases hf
  · have hf := xif_f c9 hf
    refine lv_iconst (v := 0) hx hb dL_law_999 (by decide) ?_
    cases hf
set_option maxHeartbeats 4000000 in
set_option maxRecDepth 100000 in
theorem q_14 {l : Launch} {κ : xKt} {fu : Nat} {a1 a2 a3 : Int32} {uA : Nat → sAcc} {uP : sPar} {uC : sCla} {uD : sDeb} {uJ : sJou} {ur : xF32} {ut : xF32} {ud : Int32} {ug : Int32} {uT0 : Int32} {uT1 : xF32} {uT2 : Int32} {uT3 : Int32} {uT4 : Int32} {uT5 : xF32} {uT6 : xF32} {uT7 : xF32} {uT8 : xF32} {uG0 : Int32} {uG1 : xF32} {uG2 : xF32} {uM0 : Int32} {uM1 : Int32} {uM2 : Int32} {uM3 : Int32} {uM4 : Int32} {uF0 : Int32} {uF1 : xF64} {uF2 : xF64} {uF3 : xF64} {uF4 : xF64} {uF5 : Int32} {uF6 : Int32} {uF7 : Int32} {uF8 : xF32} {uF9 : Int32} {uF10 : Int32} {uF11 : Int64} {uF12 : xF32} {uF13 : Int32} {uF14 : Int32} {uF15 : Int32} {uF16 : xF32} {uF17 : xF32} {uF18 : Int32} {uo : xF64} {uv : Nat → UInt64} {yM3 : Int32} {yF0 : Int32} {yo : xF64} {A : Nat → Prop} {p : Program} {e : Env} {s : State} {m : MethodId} {args : Array Value} {below : List Frame} {meth : Method} {c : Code} {Q : State → Prop} {b L i kc ks : Nat} {xs : Nat → Int32}
    (hc : xC κ A p s m args meth c cL_law RL 9 (some .boolean)) (hlt : l.stackTraces = false) (hX : va_X b L xs s s.heap) (hbl : b < s.heap.size) (hbA : ¬ A b) (h1 : vp_in ((nI i) + 1) L) (h2 : vp_in ((nI i) + 2) L) (h3 : vp_in ((nI i) + 3) L) (e1 : xs ((nI i) + 1).toNatClampNeg = a1) (e2 : xs ((nI i) + 2).toNatClampNeg = a2) (e3 : xs ((nI i) + 3).toNatClampNeg = a3) (hz0 : kc ≤ room_1.cells ∧ ks ≤ room_1.slots) (hz1 : kc + 1 ≤ room_1.cells ∧ ks + 6 ≤ room_1.slots)
    (hf : f_C_14 fu a1 a2 uP uC ut uM3 uF0 uF1 uo = some (yM3, yF0, yo))
    (K : ∀ (H : Heap) (locs : List Loc) (ls : Array Slot), xW κ A s (upA uA 0 (uP, uC, uD, uJ, ur, ut, ud, ug), (uT0, uT1, uT2, uT3, uT4, uT5, uT6, uT7, uT8), (uG0, uG1, uG2), (uM0, uM1, uM2, yM3, uM4), (yF0, uF1, uF2, uF3, uF4, uF5, uF6, uF7, uF8, uF9, uF10, uF11, uF12, uF13, uF14, uF15, uF16, uF17, uF18), yo, uv) H locs → lv_has ls 9 [(0, .ref b), (1, .ref (xAd κ 234)), (2, .ref (xAd κ 245)), (3, .ref (xAd κ 254)), (4, .ref (xAd κ 255)), (5, .int (nI i))] → W p l e room_1 s m args below meth c H locs (kc + 1) (ks + 6) Q (F0 m 2367 ls [])) :
    ∀ (H : Heap) (locs : List Loc) (ls : Array Slot), xW κ A s (upA uA 0 (uP, uC, uD, uJ, ur, ut, ud, ug), (uT0, uT1, uT2, uT3, uT4, uT5, uT6, uT7, uT8), (uG0, uG1, uG2), (uM0, uM1, uM2, uM3, uM4), (uF0, uF1, uF2, uF3, uF4, uF5, uF6, uF7, uF8, uF9, uF10, uF11, uF12, uF13, uF14, uF15, uF16, uF17, uF18), uo, uv) H locs → lv_has ls 9 [(0, .ref b), (1, .ref (xAd κ 234)), (2, .ref (xAd κ 245)), (3, .ref (xAd κ 254)), (4, .ref (xAd κ 255)), (5, .int (nI i))] → W p l e room_1 s m args below meth c H locs kc ks Q (F0 m 1020 ls []) := by
  have hx := hc.1.1
  have hb := hc.1.2.1
  intro H locs ls hw hl
  unfold f_C_14 at hf
  refine lv_aload_n hx hb dL_law_1020 rfl (lv_at hl 1 rfl) ?_
  refine lv_aload_n hx hb dL_law_1021 rfl (lv_at hl 0 rfl) ?_
  refine lv_iload hx hb dL_law_1022 (lv_at hl 5 rfl) ?_
  refine lv_iconst (v := 1) hx hb dL_law_1024 (by decide) ?_
  refine lv_iadd hx hb dL_law_1025 ?_
  refine va_sld hx hb hX hbl hbA hw.2 h1 dL_law_1026 ?_
  rw [e1]
  refine lv_aload_n hx hb dL_law_1027 rfl (lv_at hl 0 rfl) ?_
  refine lv_iload hx hb dL_law_1028 (lv_at hl 5 rfl) ?_
  refine lv_iconst (v := 2) hx hb dL_law_1030 (by decide) ?_
  refine lv_iadd hx hb dL_law_1031 ?_
  refine va_sld hx hb hX hbl hbA hw.2 h2 dL_law_1032 ?_
  rw [e2]
  refine lv_aload_n hx hb dL_law_1033 rfl (lv_at hl 3 rfl) ?_
  obtain ⟨v1, uM3_2, uo_3, h4, hf⟩ := xb3_of hf
  refine x_hcalliS (As := [.ref (xAd κ 234), .int a1, .int a2, .ref (xAd κ 254)]) (rest := []) (σ' := (upA uA 0 (uP, uC, uD, uJ, ur, ut, ud, ug), (uT0, uT1, uT2, uT3, uT4, uT5, uT6, uT7, uT8), (uG0, uG1, uG2), (uM0, uM1, uM2, uM3_2, uM4), (uF0, uF1, uF2, uF3, uF4, uF5, uF6, uF7, uF8, uF9, uF10, uF11, uF12, uF13, uF14, uF15, uF16, uF17, uF18), uo_3, uv)) hc hw hl.1 hlt (m_L_side h4) kL_191 rfl rfl ⟨rfl, rfl⟩ ⟨Nat.le_of_ble_eq_true rfl, Nat.le_of_ble_eq_true rfl⟩ hz1 (Nat.le_of_ble_eq_true rfl) dL_law_1034 (fun H locs hw => ?_)
  refine lv_istore (lv' := [(6, .int v1), (0, .ref b), (1, .ref (xAd κ 234)), (2, .ref (xAd κ 245)), (3, .ref (xAd κ 254)), (4, .ref (xAd κ 255)), (5, .int (nI i))]) hx hb dL_law_1037 hl (by decide) rfl (fun ls hl => ?_)
  refine lv_aload_n hx hb dL_law_1039 rfl (lv_at hl 3 rfl) ?_
  refine lv_aload_n hx hb dL_law_1040 rfl (lv_at hl 1 rfl) ?_
  refine lv_iload hx hb dL_law_1041 (lv_at hl 6 rfl) ?_
  refine lv_iconst (v := 1) hx hb dL_law_1043 (by decide) ?_
  refine lv_iadd hx hb dL_law_1044 ?_
  refine va_sld hx hb hX hbl hbA hw.2 h1 dL_law_1045 ?_
  rw [e1]
  refine lv_aload_n hx hb dL_law_1046 rfl (lv_at hl 1 rfl) ?_
  refine lv_iload hx hb dL_law_1047 (lv_at hl 6 rfl) ?_
  refine lv_iconst (v := 2) hx hb dL_law_1049 (by decide) ?_
  refine lv_iadd hx hb dL_law_1050 ?_
  refine va_sld hx hb hX hbl hbA hw.2 h2 dL_law_1051 ?_
  rw [e2]
  obtain ⟨v5, uF0_6, h7, hf⟩ := xb2_of hf
  refine x_calllV (As := [.int a1, .int a2]) (rest := []) (σ' := (upA uA 0 (uP, uC, uD, uJ, ur, ut, ud, ug), (uT0, uT1, uT2, uT3, uT4, uT5, uT6, uT7, uT8), (uG0, uG1, uG2), (uM0, uM1, uM2, uM3_2, uM4), (uF0_6, uF1, uF2, uF3, uF4, uF5, uF6, uF7, uF8, uF9, uF10, uF11, uF12, uF13, uF14, uF15, uF16, uF17, uF18), uo_3, uv)) hc hw hl.1 (m_X8_side h7) kL_193 co_245 rfl rfl ⟨rfl, rfl⟩ ⟨Nat.le_of_ble_eq_true rfl, Nat.le_of_ble_eq_true rfl⟩ hz1 (Nat.le_of_ble_eq_true rfl) dL_law_1052 (fun H locs hw => ?_)
  refine lv_lstore (lv' := [(7, .long v5), (6, .int v1), (0, .ref b), (1, .ref (xAd κ 234)), (2, .ref (xAd κ 245)), (3, .ref (xAd κ 254)), (4, .ref (xAd κ 255)), (5, .int (nI i))]) hx hb dL_law_1055 hl (by decide) rfl (fun ls hl => ?_)
  refine lv_aload_n hx hb dL_law_1057 rfl (lv_at hl 4 rfl) ?_
  obtain ⟨v8, h9, hf⟩ := xb1_of hf
  refine x_calliV (As := []) (rest := []) (σ' := (upA uA 0 (uP, uC, uD, uJ, ur, ut, ud, ug), (uT0, uT1, uT2, uT3, uT4, uT5, uT6, uT7, uT8), (uG0, uG1, uG2), (uM0, uM1, uM2, uM3_2, uM4), (uF0_6, uF1, uF2, uF3, uF4, uF5, uF6, uF7, uF8, uF9, uF10, uF11, uF12, uF13, uF14, uF15, uF16, uF17, uF18), uo_3, uv)) hc hw hl.1 (m_X8_thrown h9) kL_148 co_245 rfl rfl ⟨rfl, rfl⟩ ⟨Nat.le_of_ble_eq_true rfl, Nat.le_of_ble_eq_true rfl⟩ hz1 (Nat.le_of_ble_eq_true rfl) dL_law_1058 (fun H locs hw => ?_)
  refine lv_iload hx hb dL_law_1061 (lv_at hl 1 rfl) ?_
  refine lv_icmp_eq (tgt := 1068) hx hb dL_law_1063 (by decide) (fun c10 => ?_) (fun c10 => ?_)
  · have hf := xif_t c10 hf
    refine lv_iload hx hb dL_law_1068 (lv_at hl 1 rfl) ?_
    refine lv_if_ne (tgt := 1084) hx hb dL_law_1070 (by decide) (fun c11 => ?_) (fun c11 => ?_)
    · have hf := xif_f c11 hf
      refine lv_goto (tgt := 2367) hx hb dL_law_1084 (by decide) ?_
      cases hf
      exact K _ _ _ hw (lv_sub hl [2, 3, 4, 5, 6, 7] rfl)
    · have hf := xif_t c11 hf
      refine lv_aload_n hx hb dL_law_1073 rfl (lv_at hl 5 rfl) ?_
      refine lv_iconst (v := 0) hx hb dL_law_1074 (by decide) ?_
      obtain ⟨k12, hf⟩ := xk_of hf
      refine x_lald (n := 1) (f := uo_3) hc hw co_254 k12 dL_law_1075 ?_
      refine lv_lload hx hb dL_law_1076 (lv_at hl 0 rfl) ?_
      refine x_lcmp_eq (tgt := 1084) hx hb dL_law_1078 dL_law_1079 (by decide) (fun c13 => ?_) (fun c13 => ?_)
      · have hf := xif_t c13 hf
        refine lv_goto (tgt := 2367) hx hb dL_law_1084 (by decide) ?_
        cases hf
        exact K _ _ _ hw (lv_sub hl [2, 3, 4, 5, 6, 7] rfl)
      · have hf := xif_f c13 hf
        refine lv_iconst (v := 0) hx hb dL_law_1082 (by decide) ?_
        cases hf
  · have hf := xif_f c10 hf
    refine lv_iconst (v := 0) hx hb dL_law_1066 (by decide) ?_
    cases hf
set_option maxHeartbeats 4000000 in
set_option maxRecDepth 100000 in
theorem q_15 {l : Launch} {κ : xKt} {fu : Nat} {a1 a2 a3 : Int32} {uA : Nat → sAcc} {uP : sPar} {uC : sCla} {uD : sDeb} {uJ : sJou} {ur : xF32} {ut : xF32} {ud : Int32} {ug : Int32} {uT0 : Int32} {uT1 : xF32} {uT2 : Int32} {uT3 : Int32} {uT4 : Int32} {uT5 : xF32} {uT6 : xF32} {uT7 : xF32} {uT8 : xF32} {uG0 : Int32} {uG1 : xF32} {uG2 : xF32} {uM0 : Int32} {uM1 : Int32} {uM2 : Int32} {uM3 : Int32} {uM4 : Int32} {uF0 : Int32} {uF1 : xF64} {uF2 : xF64} {uF3 : xF64} {uF4 : xF64} {uF5 : Int32} {uF6 : Int32} {uF7 : Int32} {uF8 : xF32} {uF9 : Int32} {uF10 : Int32} {uF11 : Int64} {uF12 : xF32} {uF13 : Int32} {uF14 : Int32} {uF15 : Int32} {uF16 : xF32} {uF17 : xF32} {uF18 : Int32} {uo : xF64} {uv : Nat → UInt64} {yA : Nat → sAcc} {yP : sPar} {yJ : sJou} {yM1 : Int32} {yM2 : Int32} {yF0 : Int32} {yF1 : xF64} {yF3 : xF64} {yF4 : xF64} {yF5 : Int32} {yo : xF64} {A : Nat → Prop} {p : Program} {e : Env} {s : State} {m : MethodId} {args : Array Value} {below : List Frame} {meth : Method} {c : Code} {Q : State → Prop} {b L i kc ks : Nat} {xs : Nat → Int32}
    (hc : xC κ A p s m args meth c cL_law RL 9 (some .boolean)) (hlt : l.stackTraces = false) (hX : va_X b L xs s s.heap) (hbl : b < s.heap.size) (hbA : ¬ A b) (h1 : vp_in ((nI i) + 1) L) (h2 : vp_in ((nI i) + 2) L) (h3 : vp_in ((nI i) + 3) L) (e1 : xs ((nI i) + 1).toNatClampNeg = a1) (e2 : xs ((nI i) + 2).toNatClampNeg = a2) (e3 : xs ((nI i) + 3).toNatClampNeg = a3) (hz0 : kc ≤ room_1.cells ∧ ks ≤ room_1.slots) (hz1 : kc + 1 ≤ room_1.cells ∧ ks + 6 ≤ room_1.slots)
    (hf : f_C_15 fu a1 uA uP uC uD uJ ur ut ud ug uM1 uM2 uF0 uF1 uF3 uF4 uF5 uo = some (yA, yP, yJ, yM1, yM2, yF0, yF1, yF3, yF4, yF5, yo))
    (K : ∀ (H : Heap) (locs : List Loc) (ls : Array Slot), xW κ A s (upA yA 0 (yP, uC, uD, yJ, ur, ut, ud, ug), (uT0, uT1, uT2, uT3, uT4, uT5, uT6, uT7, uT8), (uG0, uG1, uG2), (uM0, yM1, yM2, uM3, uM4), (yF0, yF1, uF2, yF3, yF4, yF5, uF6, uF7, uF8, uF9, uF10, uF11, uF12, uF13, uF14, uF15, uF16, uF17, uF18), yo, uv) H locs → lv_has ls 9 [(0, .ref b), (1, .ref (xAd κ 234)), (2, .ref (xAd κ 245)), (3, .ref (xAd κ 254)), (4, .ref (xAd κ 255)), (5, .int (nI i))] → W p l e room_1 s m args below meth c H locs (kc + 1) (ks + 6) Q (F0 m 2367 ls [])) :
    ∀ (H : Heap) (locs : List Loc) (ls : Array Slot), xW κ A s (upA uA 0 (uP, uC, uD, uJ, ur, ut, ud, ug), (uT0, uT1, uT2, uT3, uT4, uT5, uT6, uT7, uT8), (uG0, uG1, uG2), (uM0, uM1, uM2, uM3, uM4), (uF0, uF1, uF2, uF3, uF4, uF5, uF6, uF7, uF8, uF9, uF10, uF11, uF12, uF13, uF14, uF15, uF16, uF17, uF18), uo, uv) H locs → lv_has ls 9 [(0, .ref b), (1, .ref (xAd κ 234)), (2, .ref (xAd κ 245)), (3, .ref (xAd κ 254)), (4, .ref (xAd κ 255)), (5, .int (nI i))] → W p l e room_1 s m args below meth c H locs kc ks Q (F0 m 1087 ls []) := by
  have hx := hc.1.1
  have hb := hc.1.2.1
  intro H locs ls hw hl
  unfold f_C_15 at hf
  refine lv_aload_n hx hb dL_law_1087 rfl (lv_at hl 1 rfl) ?_
  refine lv_aload_n hx hb dL_law_1088 rfl (lv_at hl 0 rfl) ?_
  refine lv_iload hx hb dL_law_1089 (lv_at hl 5 rfl) ?_
  refine lv_iconst (v := 1) hx hb dL_law_1091 (by decide) ?_
  refine lv_iadd hx hb dL_law_1092 ?_
  refine va_sld hx hb hX hbl hbA hw.2 h1 dL_law_1093 ?_
  rw [e1]
  refine lv_aload_n hx hb dL_law_1094 rfl (lv_at hl 3 rfl) ?_
  obtain ⟨v1, uA_2, uP_3, uJ_4, uM1_5, uM2_6, uo_7, h8, hf⟩ := xb7_of hf
  refine x_hcalliS (As := [.ref (xAd κ 234), .int a1, .ref (xAd κ 254)]) (rest := []) (σ' := (upA uA_2 0 (uP_3, uC, uD, uJ_4, ur, ut, ud, ug), (uT0, uT1, uT2, uT3, uT4, uT5, uT6, uT7, uT8), (uG0, uG1, uG2), (uM0, uM1_5, uM2_6, uM3, uM4), (uF0, uF1, uF2, uF3, uF4, uF5, uF6, uF7, uF8, uF9, uF10, uF11, uF12, uF13, uF14, uF15, uF16, uF17, uF18), uo_7, uv)) hc hw hl.1 hlt (m_L_call h8) kL_194 rfl rfl ⟨rfl, rfl⟩ ⟨Nat.le_of_ble_eq_true rfl, Nat.le_of_ble_eq_true rfl⟩ hz1 (Nat.le_of_ble_eq_true rfl) dL_law_1095 (fun H locs hw => ?_)
  refine lv_istore (lv' := [(6, .int v1), (0, .ref b), (1, .ref (xAd κ 234)), (2, .ref (xAd κ 245)), (3, .ref (xAd κ 254)), (4, .ref (xAd κ 255)), (5, .int (nI i))]) hx hb dL_law_1098 hl (by decide) rfl (fun ls hl => ?_)
  refine lv_aload_n hx hb dL_law_1100 rfl (lv_at hl 3 rfl) ?_
  refine lv_aload_n hx hb dL_law_1101 rfl (lv_at hl 1 rfl) ?_
  refine lv_iload hx hb dL_law_1102 (lv_at hl 6 rfl) ?_
  refine lv_iconst (v := 1) hx hb dL_law_1104 (by decide) ?_
  refine lv_iadd hx hb dL_law_1105 ?_
  refine va_sld hx hb hX hbl hbA hw.2 h1 dL_law_1106 ?_
  rw [e1]
  obtain ⟨v9, uF0_10, uF1_11, uF3_12, uF4_13, uF5_14, h15, hf⟩ := xb6_of hf
  refine x_calllV (As := [.int a1]) (rest := []) (σ' := (upA uA_2 0 (uP_3, uC, uD, uJ_4, ur, ut, ud, ug), (uT0, uT1, uT2, uT3, uT4, uT5, uT6, uT7, uT8), (uG0, uG1, uG2), (uM0, uM1_5, uM2_6, uM3, uM4), (uF0_10, uF1_11, uF2, uF3_12, uF4_13, uF5_14, uF6, uF7, uF8, uF9, uF10, uF11, uF12, uF13, uF14, uF15, uF16, uF17, uF18), uo_7, uv)) hc hw hl.1 (m_X8_call h15) kL_196 co_245 rfl rfl ⟨rfl, rfl⟩ ⟨Nat.le_of_ble_eq_true rfl, Nat.le_of_ble_eq_true rfl⟩ hz1 (Nat.le_of_ble_eq_true rfl) dL_law_1107 (fun H locs hw => ?_)
  refine lv_lstore (lv' := [(7, .long v9), (6, .int v1), (0, .ref b), (1, .ref (xAd κ 234)), (2, .ref (xAd κ 245)), (3, .ref (xAd κ 254)), (4, .ref (xAd κ 255)), (5, .int (nI i))]) hx hb dL_law_1110 hl (by decide) rfl (fun ls hl => ?_)
  refine lv_aload_n hx hb dL_law_1112 rfl (lv_at hl 4 rfl) ?_
  obtain ⟨v16, h17, hf⟩ := xb1_of hf
  refine x_calliV (As := []) (rest := []) (σ' := (upA uA_2 0 (uP_3, uC, uD, uJ_4, ur, ut, ud, ug), (uT0, uT1, uT2, uT3, uT4, uT5, uT6, uT7, uT8), (uG0, uG1, uG2), (uM0, uM1_5, uM2_6, uM3, uM4), (uF0_10, uF1_11, uF2, uF3_12, uF4_13, uF5_14, uF6, uF7, uF8, uF9, uF10, uF11, uF12, uF13, uF14, uF15, uF16, uF17, uF18), uo_7, uv)) hc hw hl.1 (m_X8_thrown h17) kL_148 co_245 rfl rfl ⟨rfl, rfl⟩ ⟨Nat.le_of_ble_eq_true rfl, Nat.le_of_ble_eq_true rfl⟩ hz1 (Nat.le_of_ble_eq_true rfl) dL_law_1113 (fun H locs hw => ?_)
  refine lv_iload hx hb dL_law_1116 (lv_at hl 1 rfl) ?_
  refine lv_icmp_eq (tgt := 1123) hx hb dL_law_1118 (by decide) (fun c18 => ?_) (fun c18 => ?_)
  · have hf := xif_t c18 hf
    refine lv_iload hx hb dL_law_1123 (lv_at hl 1 rfl) ?_
    refine lv_if_ne (tgt := 1139) hx hb dL_law_1125 (by decide) (fun c19 => ?_) (fun c19 => ?_)
    · have hf := xif_f c19 hf
      refine lv_goto (tgt := 2367) hx hb dL_law_1139 (by decide) ?_
      cases hf
      exact K _ _ _ hw (lv_sub hl [2, 3, 4, 5, 6, 7] rfl)
    · have hf := xif_t c19 hf
      refine lv_aload_n hx hb dL_law_1128 rfl (lv_at hl 5 rfl) ?_
      refine lv_iconst (v := 0) hx hb dL_law_1129 (by decide) ?_
      obtain ⟨k20, hf⟩ := xk_of hf
      refine x_lald (n := 1) (f := uo_7) hc hw co_254 k20 dL_law_1130 ?_
      refine lv_lload hx hb dL_law_1131 (lv_at hl 0 rfl) ?_
      refine x_lcmp_eq (tgt := 1139) hx hb dL_law_1133 dL_law_1134 (by decide) (fun c21 => ?_) (fun c21 => ?_)
      · have hf := xif_t c21 hf
        refine lv_goto (tgt := 2367) hx hb dL_law_1139 (by decide) ?_
        cases hf
        exact K _ _ _ hw (lv_sub hl [2, 3, 4, 5, 6, 7] rfl)
      · have hf := xif_f c21 hf
        refine lv_iconst (v := 0) hx hb dL_law_1137 (by decide) ?_
        cases hf
  · have hf := xif_f c18 hf
    refine lv_iconst (v := 0) hx hb dL_law_1121 (by decide) ?_
    cases hf
set_option maxHeartbeats 4000000 in
set_option maxRecDepth 100000 in
theorem q_16 {l : Launch} {κ : xKt} {fu : Nat} {a1 a2 a3 : Int32} {uA : Nat → sAcc} {uP : sPar} {uC : sCla} {uD : sDeb} {uJ : sJou} {ur : xF32} {ut : xF32} {ud : Int32} {ug : Int32} {uT0 : Int32} {uT1 : xF32} {uT2 : Int32} {uT3 : Int32} {uT4 : Int32} {uT5 : xF32} {uT6 : xF32} {uT7 : xF32} {uT8 : xF32} {uG0 : Int32} {uG1 : xF32} {uG2 : xF32} {uM0 : Int32} {uM1 : Int32} {uM2 : Int32} {uM3 : Int32} {uM4 : Int32} {uF0 : Int32} {uF1 : xF64} {uF2 : xF64} {uF3 : xF64} {uF4 : xF64} {uF5 : Int32} {uF6 : Int32} {uF7 : Int32} {uF8 : xF32} {uF9 : Int32} {uF10 : Int32} {uF11 : Int64} {uF12 : xF32} {uF13 : Int32} {uF14 : Int32} {uF15 : Int32} {uF16 : xF32} {uF17 : xF32} {uF18 : Int32} {uo : xF64} {uv : Nat → UInt64} {yA : Nat → sAcc} {yP : sPar} {yJ : sJou} {yM1 : Int32} {yM2 : Int32} {yM3 : Int32} {yF0 : Int32} {yF1 : xF64} {yF3 : xF64} {yF4 : xF64} {yF5 : Int32} {yF11 : Int64} {yo : xF64} {A : Nat → Prop} {p : Program} {e : Env} {s : State} {m : MethodId} {args : Array Value} {below : List Frame} {meth : Method} {c : Code} {Q : State → Prop} {b L i kc ks : Nat} {xs : Nat → Int32}
    (hc : xC κ A p s m args meth c cL_law RL 9 (some .boolean)) (hlt : l.stackTraces = false) (hX : va_X b L xs s s.heap) (hbl : b < s.heap.size) (hbA : ¬ A b) (h1 : vp_in ((nI i) + 1) L) (h2 : vp_in ((nI i) + 2) L) (h3 : vp_in ((nI i) + 3) L) (e1 : xs ((nI i) + 1).toNatClampNeg = a1) (e2 : xs ((nI i) + 2).toNatClampNeg = a2) (e3 : xs ((nI i) + 3).toNatClampNeg = a3) (hz0 : kc ≤ room_1.cells ∧ ks ≤ room_1.slots) (hz1 : kc + 1 ≤ room_1.cells ∧ ks + 6 ≤ room_1.slots)
    (hf : f_C_16 fu a1 a2 uA uP uC uD uJ ur ut ud ug uM1 uM2 uM3 uF0 uF1 uF3 uF4 uF5 uF11 uo = some (yA, yP, yJ, yM1, yM2, yM3, yF0, yF1, yF3, yF4, yF5, yF11, yo))
    (K : ∀ (H : Heap) (locs : List Loc) (ls : Array Slot), xW κ A s (upA yA 0 (yP, uC, uD, yJ, ur, ut, ud, ug), (uT0, uT1, uT2, uT3, uT4, uT5, uT6, uT7, uT8), (uG0, uG1, uG2), (uM0, yM1, yM2, yM3, uM4), (yF0, yF1, uF2, yF3, yF4, yF5, uF6, uF7, uF8, uF9, uF10, yF11, uF12, uF13, uF14, uF15, uF16, uF17, uF18), yo, uv) H locs → lv_has ls 9 [(0, .ref b), (1, .ref (xAd κ 234)), (2, .ref (xAd κ 245)), (3, .ref (xAd κ 254)), (4, .ref (xAd κ 255)), (5, .int (nI i))] → W p l e room_1 s m args below meth c H locs (kc + 1) (ks + 6) Q (F0 m 2367 ls [])) :
    ∀ (H : Heap) (locs : List Loc) (ls : Array Slot), xW κ A s (upA uA 0 (uP, uC, uD, uJ, ur, ut, ud, ug), (uT0, uT1, uT2, uT3, uT4, uT5, uT6, uT7, uT8), (uG0, uG1, uG2), (uM0, uM1, uM2, uM3, uM4), (uF0, uF1, uF2, uF3, uF4, uF5, uF6, uF7, uF8, uF9, uF10, uF11, uF12, uF13, uF14, uF15, uF16, uF17, uF18), uo, uv) H locs → lv_has ls 9 [(0, .ref b), (1, .ref (xAd κ 234)), (2, .ref (xAd κ 245)), (3, .ref (xAd κ 254)), (4, .ref (xAd κ 255)), (5, .int (nI i))] → W p l e room_1 s m args below meth c H locs kc ks Q (F0 m 1142 ls []) := by
  have hx := hc.1.1
  have hb := hc.1.2.1
  intro H locs ls hw hl
  unfold f_C_16 at hf
  refine lv_aload_n hx hb dL_law_1142 rfl (lv_at hl 1 rfl) ?_
  refine lv_aload_n hx hb dL_law_1143 rfl (lv_at hl 0 rfl) ?_
  refine lv_iload hx hb dL_law_1144 (lv_at hl 5 rfl) ?_
  refine lv_iconst (v := 1) hx hb dL_law_1146 (by decide) ?_
  refine lv_iadd hx hb dL_law_1147 ?_
  refine va_sld hx hb hX hbl hbA hw.2 h1 dL_law_1148 ?_
  rw [e1]
  refine lv_aload_n hx hb dL_law_1149 rfl (lv_at hl 0 rfl) ?_
  refine lv_iload hx hb dL_law_1150 (lv_at hl 5 rfl) ?_
  refine lv_iconst (v := 2) hx hb dL_law_1152 (by decide) ?_
  refine lv_iadd hx hb dL_law_1153 ?_
  refine va_sld hx hb hX hbl hbA hw.2 h2 dL_law_1154 ?_
  rw [e2]
  refine lv_aload_n hx hb dL_law_1155 rfl (lv_at hl 3 rfl) ?_
  obtain ⟨v1, uA_2, uP_3, uJ_4, uM1_5, uM2_6, uM3_7, uo_8, h9, hf⟩ := xb8_of hf
  refine x_hcalliS (As := [.ref (xAd κ 234), .int a1, .int a2, .ref (xAd κ 254)]) (rest := []) (σ' := (upA uA_2 0 (uP_3, uC, uD, uJ_4, ur, ut, ud, ug), (uT0, uT1, uT2, uT3, uT4, uT5, uT6, uT7, uT8), (uG0, uG1, uG2), (uM0, uM1_5, uM2_6, uM3_7, uM4), (uF0, uF1, uF2, uF3, uF4, uF5, uF6, uF7, uF8, uF9, uF10, uF11, uF12, uF13, uF14, uF15, uF16, uF17, uF18), uo_8, uv)) hc hw hl.1 hlt (m_L_pay h9) kL_197 rfl rfl ⟨rfl, rfl⟩ ⟨Nat.le_of_ble_eq_true rfl, Nat.le_of_ble_eq_true rfl⟩ hz1 (Nat.le_of_ble_eq_true rfl) dL_law_1156 (fun H locs hw => ?_)
  refine lv_istore (lv' := [(6, .int v1), (0, .ref b), (1, .ref (xAd κ 234)), (2, .ref (xAd κ 245)), (3, .ref (xAd κ 254)), (4, .ref (xAd κ 255)), (5, .int (nI i))]) hx hb dL_law_1159 hl (by decide) rfl (fun ls hl => ?_)
  refine lv_aload_n hx hb dL_law_1161 rfl (lv_at hl 3 rfl) ?_
  refine lv_aload_n hx hb dL_law_1162 rfl (lv_at hl 1 rfl) ?_
  refine lv_iload hx hb dL_law_1163 (lv_at hl 6 rfl) ?_
  refine lv_iconst (v := 1) hx hb dL_law_1165 (by decide) ?_
  refine lv_iadd hx hb dL_law_1166 ?_
  refine va_sld hx hb hX hbl hbA hw.2 h1 dL_law_1167 ?_
  rw [e1]
  refine lv_aload_n hx hb dL_law_1168 rfl (lv_at hl 1 rfl) ?_
  refine lv_iload hx hb dL_law_1169 (lv_at hl 6 rfl) ?_
  refine lv_iconst (v := 2) hx hb dL_law_1171 (by decide) ?_
  refine lv_iadd hx hb dL_law_1172 ?_
  refine va_sld hx hb hX hbl hbA hw.2 h2 dL_law_1173 ?_
  rw [e2]
  obtain ⟨v10, uF0_11, uF1_12, uF3_13, uF4_14, uF5_15, uF11_16, h17, hf⟩ := xb7_of hf
  refine x_calllV (As := [.int a1, .int a2]) (rest := []) (σ' := (upA uA_2 0 (uP_3, uC, uD, uJ_4, ur, ut, ud, ug), (uT0, uT1, uT2, uT3, uT4, uT5, uT6, uT7, uT8), (uG0, uG1, uG2), (uM0, uM1_5, uM2_6, uM3_7, uM4), (uF0_11, uF1_12, uF2, uF3_13, uF4_14, uF5_15, uF6, uF7, uF8, uF9, uF10, uF11_16, uF12, uF13, uF14, uF15, uF16, uF17, uF18), uo_8, uv)) hc hw hl.1 (m_X8_pay h17) kL_199 co_245 rfl rfl ⟨rfl, rfl⟩ ⟨Nat.le_of_ble_eq_true rfl, Nat.le_of_ble_eq_true rfl⟩ hz1 (Nat.le_of_ble_eq_true rfl) dL_law_1174 (fun H locs hw => ?_)
  refine lv_lstore (lv' := [(7, .long v10), (6, .int v1), (0, .ref b), (1, .ref (xAd κ 234)), (2, .ref (xAd κ 245)), (3, .ref (xAd κ 254)), (4, .ref (xAd κ 255)), (5, .int (nI i))]) hx hb dL_law_1177 hl (by decide) rfl (fun ls hl => ?_)
  refine lv_aload_n hx hb dL_law_1179 rfl (lv_at hl 4 rfl) ?_
  obtain ⟨v18, h19, hf⟩ := xb1_of hf
  refine x_calliV (As := []) (rest := []) (σ' := (upA uA_2 0 (uP_3, uC, uD, uJ_4, ur, ut, ud, ug), (uT0, uT1, uT2, uT3, uT4, uT5, uT6, uT7, uT8), (uG0, uG1, uG2), (uM0, uM1_5, uM2_6, uM3_7, uM4), (uF0_11, uF1_12, uF2, uF3_13, uF4_14, uF5_15, uF6, uF7, uF8, uF9, uF10, uF11_16, uF12, uF13, uF14, uF15, uF16, uF17, uF18), uo_8, uv)) hc hw hl.1 (m_X8_thrown h19) kL_148 co_245 rfl rfl ⟨rfl, rfl⟩ ⟨Nat.le_of_ble_eq_true rfl, Nat.le_of_ble_eq_true rfl⟩ hz1 (Nat.le_of_ble_eq_true rfl) dL_law_1180 (fun H locs hw => ?_)
  refine lv_iload hx hb dL_law_1183 (lv_at hl 1 rfl) ?_
  refine lv_icmp_eq (tgt := 1190) hx hb dL_law_1185 (by decide) (fun c20 => ?_) (fun c20 => ?_)
  · have hf := xif_t c20 hf
    refine lv_iload hx hb dL_law_1190 (lv_at hl 1 rfl) ?_
    refine lv_if_ne (tgt := 1206) hx hb dL_law_1192 (by decide) (fun c21 => ?_) (fun c21 => ?_)
    · have hf := xif_f c21 hf
      refine lv_goto (tgt := 2367) hx hb dL_law_1206 (by decide) ?_
      cases hf
      exact K _ _ _ hw (lv_sub hl [2, 3, 4, 5, 6, 7] rfl)
    · have hf := xif_t c21 hf
      refine lv_aload_n hx hb dL_law_1195 rfl (lv_at hl 5 rfl) ?_
      refine lv_iconst (v := 0) hx hb dL_law_1196 (by decide) ?_
      obtain ⟨k22, hf⟩ := xk_of hf
      refine x_lald (n := 1) (f := uo_8) hc hw co_254 k22 dL_law_1197 ?_
      refine lv_lload hx hb dL_law_1198 (lv_at hl 0 rfl) ?_
      refine x_lcmp_eq (tgt := 1206) hx hb dL_law_1200 dL_law_1201 (by decide) (fun c23 => ?_) (fun c23 => ?_)
      · have hf := xif_t c23 hf
        refine lv_goto (tgt := 2367) hx hb dL_law_1206 (by decide) ?_
        cases hf
        exact K _ _ _ hw (lv_sub hl [2, 3, 4, 5, 6, 7] rfl)
      · have hf := xif_f c23 hf
        refine lv_iconst (v := 0) hx hb dL_law_1204 (by decide) ?_
        cases hf
  · have hf := xif_f c20 hf
    refine lv_iconst (v := 0) hx hb dL_law_1188 (by decide) ?_
    cases hf
set_option maxHeartbeats 4000000 in
set_option maxRecDepth 100000 in
theorem q_17 {l : Launch} {κ : xKt} {fu : Nat} {a1 a2 a3 : Int32} {uA : Nat → sAcc} {uP : sPar} {uC : sCla} {uD : sDeb} {uJ : sJou} {ur : xF32} {ut : xF32} {ud : Int32} {ug : Int32} {uT0 : Int32} {uT1 : xF32} {uT2 : Int32} {uT3 : Int32} {uT4 : Int32} {uT5 : xF32} {uT6 : xF32} {uT7 : xF32} {uT8 : xF32} {uG0 : Int32} {uG1 : xF32} {uG2 : xF32} {uM0 : Int32} {uM1 : Int32} {uM2 : Int32} {uM3 : Int32} {uM4 : Int32} {uF0 : Int32} {uF1 : xF64} {uF2 : xF64} {uF3 : xF64} {uF4 : xF64} {uF5 : Int32} {uF6 : Int32} {uF7 : Int32} {uF8 : xF32} {uF9 : Int32} {uF10 : Int32} {uF11 : Int64} {uF12 : xF32} {uF13 : Int32} {uF14 : Int32} {uF15 : Int32} {uF16 : xF32} {uF17 : xF32} {uF18 : Int32} {uo : xF64} {uv : Nat → UInt64} {yA : Nat → sAcc} {yP : sPar} {yD : sDeb} {yJ : sJou} {yM1 : Int32} {yM2 : Int32} {yM3 : Int32} {yF0 : Int32} {yF1 : xF64} {yF3 : xF64} {yF4 : xF64} {yF5 : Int32} {yo : xF64} {A : Nat → Prop} {p : Program} {e : Env} {s : State} {m : MethodId} {args : Array Value} {below : List Frame} {meth : Method} {c : Code} {Q : State → Prop} {b L i kc ks : Nat} {xs : Nat → Int32}
    (hc : xC κ A p s m args meth c cL_law RL 9 (some .boolean)) (hlt : l.stackTraces = false) (hX : va_X b L xs s s.heap) (hbl : b < s.heap.size) (hbA : ¬ A b) (h1 : vp_in ((nI i) + 1) L) (h2 : vp_in ((nI i) + 2) L) (h3 : vp_in ((nI i) + 3) L) (e1 : xs ((nI i) + 1).toNatClampNeg = a1) (e2 : xs ((nI i) + 2).toNatClampNeg = a2) (e3 : xs ((nI i) + 3).toNatClampNeg = a3) (hz0 : kc ≤ room_1.cells ∧ ks ≤ room_1.slots) (hz1 : kc + 1 ≤ room_1.cells ∧ ks + 6 ≤ room_1.slots)
    (hf : f_C_17 fu a1 a2 uA uP uC uD uJ ur ut ud ug uM1 uM2 uM3 uF0 uF1 uF3 uF4 uF5 uo = some (yA, yP, yD, yJ, yM1, yM2, yM3, yF0, yF1, yF3, yF4, yF5, yo))
    (K : ∀ (H : Heap) (locs : List Loc) (ls : Array Slot), xW κ A s (upA yA 0 (yP, uC, yD, yJ, ur, ut, ud, ug), (uT0, uT1, uT2, uT3, uT4, uT5, uT6, uT7, uT8), (uG0, uG1, uG2), (uM0, yM1, yM2, yM3, uM4), (yF0, yF1, uF2, yF3, yF4, yF5, uF6, uF7, uF8, uF9, uF10, uF11, uF12, uF13, uF14, uF15, uF16, uF17, uF18), yo, uv) H locs → lv_has ls 9 [(0, .ref b), (1, .ref (xAd κ 234)), (2, .ref (xAd κ 245)), (3, .ref (xAd κ 254)), (4, .ref (xAd κ 255)), (5, .int (nI i))] → W p l e room_1 s m args below meth c H locs (kc + 1) (ks + 6) Q (F0 m 2367 ls [])) :
    ∀ (H : Heap) (locs : List Loc) (ls : Array Slot), xW κ A s (upA uA 0 (uP, uC, uD, uJ, ur, ut, ud, ug), (uT0, uT1, uT2, uT3, uT4, uT5, uT6, uT7, uT8), (uG0, uG1, uG2), (uM0, uM1, uM2, uM3, uM4), (uF0, uF1, uF2, uF3, uF4, uF5, uF6, uF7, uF8, uF9, uF10, uF11, uF12, uF13, uF14, uF15, uF16, uF17, uF18), uo, uv) H locs → lv_has ls 9 [(0, .ref b), (1, .ref (xAd κ 234)), (2, .ref (xAd κ 245)), (3, .ref (xAd κ 254)), (4, .ref (xAd κ 255)), (5, .int (nI i))] → W p l e room_1 s m args below meth c H locs kc ks Q (F0 m 1209 ls []) := by
  have hx := hc.1.1
  have hb := hc.1.2.1
  intro H locs ls hw hl
  unfold f_C_17 at hf
  refine lv_aload_n hx hb dL_law_1209 rfl (lv_at hl 1 rfl) ?_
  refine lv_aload_n hx hb dL_law_1210 rfl (lv_at hl 0 rfl) ?_
  refine lv_iload hx hb dL_law_1211 (lv_at hl 5 rfl) ?_
  refine lv_iconst (v := 1) hx hb dL_law_1213 (by decide) ?_
  refine lv_iadd hx hb dL_law_1214 ?_
  refine va_sld hx hb hX hbl hbA hw.2 h1 dL_law_1215 ?_
  rw [e1]
  refine lv_aload_n hx hb dL_law_1216 rfl (lv_at hl 0 rfl) ?_
  refine lv_iload hx hb dL_law_1217 (lv_at hl 5 rfl) ?_
  refine lv_iconst (v := 2) hx hb dL_law_1219 (by decide) ?_
  refine lv_iadd hx hb dL_law_1220 ?_
  refine va_sld hx hb hX hbl hbA hw.2 h2 dL_law_1221 ?_
  rw [e2]
  refine lv_aload_n hx hb dL_law_1222 rfl (lv_at hl 3 rfl) ?_
  obtain ⟨v1, uA_2, uP_3, uD_4, uJ_5, uM1_6, uM2_7, uM3_8, uo_9, h10, hf⟩ := xb9_of hf
  refine x_hcalliS (As := [.ref (xAd κ 234), .int a1, .int a2, .ref (xAd κ 254)]) (rest := []) (σ' := (upA uA_2 0 (uP_3, uC, uD_4, uJ_5, ur, ut, ud, ug), (uT0, uT1, uT2, uT3, uT4, uT5, uT6, uT7, uT8), (uG0, uG1, uG2), (uM0, uM1_6, uM2_7, uM3_8, uM4), (uF0, uF1, uF2, uF3, uF4, uF5, uF6, uF7, uF8, uF9, uF10, uF11, uF12, uF13, uF14, uF15, uF16, uF17, uF18), uo_9, uv)) hc hw hl.1 hlt (m_L_payFor h10) kL_200 rfl rfl ⟨rfl, rfl⟩ ⟨Nat.le_of_ble_eq_true rfl, Nat.le_of_ble_eq_true rfl⟩ hz1 (Nat.le_of_ble_eq_true rfl) dL_law_1223 (fun H locs hw => ?_)
  refine lv_istore (lv' := [(6, .int v1), (0, .ref b), (1, .ref (xAd κ 234)), (2, .ref (xAd κ 245)), (3, .ref (xAd κ 254)), (4, .ref (xAd κ 255)), (5, .int (nI i))]) hx hb dL_law_1226 hl (by decide) rfl (fun ls hl => ?_)
  refine lv_aload_n hx hb dL_law_1228 rfl (lv_at hl 3 rfl) ?_
  refine lv_aload_n hx hb dL_law_1229 rfl (lv_at hl 1 rfl) ?_
  refine lv_iload hx hb dL_law_1230 (lv_at hl 6 rfl) ?_
  refine lv_iconst (v := 1) hx hb dL_law_1232 (by decide) ?_
  refine lv_iadd hx hb dL_law_1233 ?_
  refine va_sld hx hb hX hbl hbA hw.2 h1 dL_law_1234 ?_
  rw [e1]
  refine lv_aload_n hx hb dL_law_1235 rfl (lv_at hl 1 rfl) ?_
  refine lv_iload hx hb dL_law_1236 (lv_at hl 6 rfl) ?_
  refine lv_iconst (v := 2) hx hb dL_law_1238 (by decide) ?_
  refine lv_iadd hx hb dL_law_1239 ?_
  refine va_sld hx hb hX hbl hbA hw.2 h2 dL_law_1240 ?_
  rw [e2]
  obtain ⟨v11, uF0_12, uF1_13, uF3_14, uF4_15, uF5_16, h17, hf⟩ := xb6_of hf
  refine x_calllV (As := [.int a1, .int a2]) (rest := []) (σ' := (upA uA_2 0 (uP_3, uC, uD_4, uJ_5, ur, ut, ud, ug), (uT0, uT1, uT2, uT3, uT4, uT5, uT6, uT7, uT8), (uG0, uG1, uG2), (uM0, uM1_6, uM2_7, uM3_8, uM4), (uF0_12, uF1_13, uF2, uF3_14, uF4_15, uF5_16, uF6, uF7, uF8, uF9, uF10, uF11, uF12, uF13, uF14, uF15, uF16, uF17, uF18), uo_9, uv)) hc hw hl.1 (m_X8_payFor h17) kL_202 co_245 rfl rfl ⟨rfl, rfl⟩ ⟨Nat.le_of_ble_eq_true rfl, Nat.le_of_ble_eq_true rfl⟩ hz1 (Nat.le_of_ble_eq_true rfl) dL_law_1241 (fun H locs hw => ?_)
  refine lv_lstore (lv' := [(7, .long v11), (6, .int v1), (0, .ref b), (1, .ref (xAd κ 234)), (2, .ref (xAd κ 245)), (3, .ref (xAd κ 254)), (4, .ref (xAd κ 255)), (5, .int (nI i))]) hx hb dL_law_1244 hl (by decide) rfl (fun ls hl => ?_)
  refine lv_aload_n hx hb dL_law_1246 rfl (lv_at hl 4 rfl) ?_
  obtain ⟨v18, h19, hf⟩ := xb1_of hf
  refine x_calliV (As := []) (rest := []) (σ' := (upA uA_2 0 (uP_3, uC, uD_4, uJ_5, ur, ut, ud, ug), (uT0, uT1, uT2, uT3, uT4, uT5, uT6, uT7, uT8), (uG0, uG1, uG2), (uM0, uM1_6, uM2_7, uM3_8, uM4), (uF0_12, uF1_13, uF2, uF3_14, uF4_15, uF5_16, uF6, uF7, uF8, uF9, uF10, uF11, uF12, uF13, uF14, uF15, uF16, uF17, uF18), uo_9, uv)) hc hw hl.1 (m_X8_thrown h19) kL_148 co_245 rfl rfl ⟨rfl, rfl⟩ ⟨Nat.le_of_ble_eq_true rfl, Nat.le_of_ble_eq_true rfl⟩ hz1 (Nat.le_of_ble_eq_true rfl) dL_law_1247 (fun H locs hw => ?_)
  refine lv_iload hx hb dL_law_1250 (lv_at hl 1 rfl) ?_
  refine lv_icmp_eq (tgt := 1257) hx hb dL_law_1252 (by decide) (fun c20 => ?_) (fun c20 => ?_)
  · have hf := xif_t c20 hf
    refine lv_iload hx hb dL_law_1257 (lv_at hl 1 rfl) ?_
    refine lv_if_ne (tgt := 1273) hx hb dL_law_1259 (by decide) (fun c21 => ?_) (fun c21 => ?_)
    · have hf := xif_f c21 hf
      refine lv_goto (tgt := 2367) hx hb dL_law_1273 (by decide) ?_
      cases hf
      exact K _ _ _ hw (lv_sub hl [2, 3, 4, 5, 6, 7] rfl)
    · have hf := xif_t c21 hf
      refine lv_aload_n hx hb dL_law_1262 rfl (lv_at hl 5 rfl) ?_
      refine lv_iconst (v := 0) hx hb dL_law_1263 (by decide) ?_
      obtain ⟨k22, hf⟩ := xk_of hf
      refine x_lald (n := 1) (f := uo_9) hc hw co_254 k22 dL_law_1264 ?_
      refine lv_lload hx hb dL_law_1265 (lv_at hl 0 rfl) ?_
      refine x_lcmp_eq (tgt := 1273) hx hb dL_law_1267 dL_law_1268 (by decide) (fun c23 => ?_) (fun c23 => ?_)
      · have hf := xif_t c23 hf
        refine lv_goto (tgt := 2367) hx hb dL_law_1273 (by decide) ?_
        cases hf
        exact K _ _ _ hw (lv_sub hl [2, 3, 4, 5, 6, 7] rfl)
      · have hf := xif_f c23 hf
        refine lv_iconst (v := 0) hx hb dL_law_1271 (by decide) ?_
        cases hf
  · have hf := xif_f c20 hf
    refine lv_iconst (v := 0) hx hb dL_law_1255 (by decide) ?_
    cases hf
set_option maxHeartbeats 4000000 in
set_option maxRecDepth 100000 in
theorem q_18 {l : Launch} {κ : xKt} {fu : Nat} {a1 a2 a3 : Int32} {uA : Nat → sAcc} {uP : sPar} {uC : sCla} {uD : sDeb} {uJ : sJou} {ur : xF32} {ut : xF32} {ud : Int32} {ug : Int32} {uT0 : Int32} {uT1 : xF32} {uT2 : Int32} {uT3 : Int32} {uT4 : Int32} {uT5 : xF32} {uT6 : xF32} {uT7 : xF32} {uT8 : xF32} {uG0 : Int32} {uG1 : xF32} {uG2 : xF32} {uM0 : Int32} {uM1 : Int32} {uM2 : Int32} {uM3 : Int32} {uM4 : Int32} {uF0 : Int32} {uF1 : xF64} {uF2 : xF64} {uF3 : xF64} {uF4 : xF64} {uF5 : Int32} {uF6 : Int32} {uF7 : Int32} {uF8 : xF32} {uF9 : Int32} {uF10 : Int32} {uF11 : Int64} {uF12 : xF32} {uF13 : Int32} {uF14 : Int32} {uF15 : Int32} {uF16 : xF32} {uF17 : xF32} {uF18 : Int32} {uo : xF64} {uv : Nat → UInt64} {yA : Nat → sAcc} {yP : sPar} {yJ : sJou} {yM1 : Int32} {yM2 : Int32} {yF0 : Int32} {yF1 : xF64} {yF3 : xF64} {yF4 : xF64} {yF5 : Int32} {A : Nat → Prop} {p : Program} {e : Env} {s : State} {m : MethodId} {args : Array Value} {below : List Frame} {meth : Method} {c : Code} {Q : State → Prop} {b L i kc ks : Nat} {xs : Nat → Int32}
    (hc : xC κ A p s m args meth c cL_law RL 9 (some .boolean)) (hlt : l.stackTraces = false) (hX : va_X b L xs s s.heap) (hbl : b < s.heap.size) (hbA : ¬ A b) (h1 : vp_in ((nI i) + 1) L) (h2 : vp_in ((nI i) + 2) L) (h3 : vp_in ((nI i) + 3) L) (e1 : xs ((nI i) + 1).toNatClampNeg = a1) (e2 : xs ((nI i) + 2).toNatClampNeg = a2) (e3 : xs ((nI i) + 3).toNatClampNeg = a3) (hz0 : kc ≤ room_1.cells ∧ ks ≤ room_1.slots) (hz1 : kc + 1 ≤ room_1.cells ∧ ks + 6 ≤ room_1.slots)
    (hf : f_C_18 fu uA uP uC uD uJ ur ut ud ug uM1 uM2 uF0 uF1 uF3 uF4 uF5 = some (yA, yP, yJ, yM1, yM2, yF0, yF1, yF3, yF4, yF5))
    (K : ∀ (H : Heap) (locs : List Loc) (ls : Array Slot), xW κ A s (upA yA 0 (yP, uC, uD, yJ, ur, ut, ud, ug), (uT0, uT1, uT2, uT3, uT4, uT5, uT6, uT7, uT8), (uG0, uG1, uG2), (uM0, yM1, yM2, uM3, uM4), (yF0, yF1, uF2, yF3, yF4, yF5, uF6, uF7, uF8, uF9, uF10, uF11, uF12, uF13, uF14, uF15, uF16, uF17, uF18), uo, uv) H locs → lv_has ls 9 [(0, .ref b), (1, .ref (xAd κ 234)), (2, .ref (xAd κ 245)), (3, .ref (xAd κ 254)), (4, .ref (xAd κ 255)), (5, .int (nI i))] → W p l e room_1 s m args below meth c H locs (kc + 1) (ks + 6) Q (F0 m 2367 ls [])) :
    ∀ (H : Heap) (locs : List Loc) (ls : Array Slot), xW κ A s (upA uA 0 (uP, uC, uD, uJ, ur, ut, ud, ug), (uT0, uT1, uT2, uT3, uT4, uT5, uT6, uT7, uT8), (uG0, uG1, uG2), (uM0, uM1, uM2, uM3, uM4), (uF0, uF1, uF2, uF3, uF4, uF5, uF6, uF7, uF8, uF9, uF10, uF11, uF12, uF13, uF14, uF15, uF16, uF17, uF18), uo, uv) H locs → lv_has ls 9 [(0, .ref b), (1, .ref (xAd κ 234)), (2, .ref (xAd κ 245)), (3, .ref (xAd κ 254)), (4, .ref (xAd κ 255)), (5, .int (nI i))] → W p l e room_1 s m args below meth c H locs kc ks Q (F0 m 1276 ls []) := by
  have hx := hc.1.1
  have hb := hc.1.2.1
  intro H locs ls hw hl
  unfold f_C_18 at hf
  refine lv_aload_n hx hb dL_law_1276 rfl (lv_at hl 1 rfl) ?_
  obtain ⟨v1, uA_2, uP_3, uJ_4, uM1_5, uM2_6, h7, hf⟩ := xb6_of hf
  refine x_calllV (As := []) (rest := []) (σ' := (upA uA_2 0 (uP_3, uC, uD, uJ_4, ur, ut, ud, ug), (uT0, uT1, uT2, uT3, uT4, uT5, uT6, uT7, uT8), (uG0, uG1, uG2), (uM0, uM1_5, uM2_6, uM3, uM4), (uF0, uF1, uF2, uF3, uF4, uF5, uF6, uF7, uF8, uF9, uF10, uF11, uF12, uF13, uF14, uF15, uF16, uF17, uF18), uo, uv)) hc hw hl.1 (m_X7_takeFees h7) kL_203 co_234 rfl rfl ⟨rfl, rfl⟩ ⟨Nat.le_of_ble_eq_true rfl, Nat.le_of_ble_eq_true rfl⟩ hz0 (Nat.le_of_ble_eq_true rfl) dL_law_1277 (fun H locs hw => ?_)
  refine lv_aload_n hx hb dL_law_1280 rfl (lv_at hl 2 rfl) ?_
  obtain ⟨v8, uF0_9, uF1_10, uF3_11, uF4_12, uF5_13, h14, hf⟩ := xb6_of hf
  refine x_calllV (As := []) (rest := [.long v1]) (σ' := (upA uA_2 0 (uP_3, uC, uD, uJ_4, ur, ut, ud, ug), (uT0, uT1, uT2, uT3, uT4, uT5, uT6, uT7, uT8), (uG0, uG1, uG2), (uM0, uM1_5, uM2_6, uM3, uM4), (uF0_9, uF1_10, uF2, uF3_11, uF4_12, uF5_13, uF6, uF7, uF8, uF9, uF10, uF11, uF12, uF13, uF14, uF15, uF16, uF17, uF18), uo, uv)) hc hw hl.1 (m_X8_takeFees h14) kL_206 co_245 rfl rfl ⟨rfl, rfl⟩ ⟨Nat.le_of_ble_eq_true rfl, Nat.le_of_ble_eq_true rfl⟩ hz0 (Nat.le_of_ble_eq_true rfl) dL_law_1281 (fun H locs hw => ?_)
  refine x_lcmp_eq (tgt := 2367) hx hb dL_law_1284 dL_law_1285 (by decide) (fun c15 => ?_) (fun c15 => ?_)
  · have hf := xif_t c15 hf
    cases hf
    exact W.widen (Nat.le_succ _) (Nat.le_add_right _ _) (K _ _ _ hw (lv_sub hl [0, 1, 2, 3, 4, 5] rfl))
  · have hf := xif_f c15 hf
    refine lv_iconst (v := 0) hx hb dL_law_1288 (by decide) ?_
    cases hf
set_option maxHeartbeats 4000000 in
set_option maxRecDepth 100000 in
theorem q_19 {l : Launch} {κ : xKt} {fu : Nat} {a1 a2 a3 : Int32} {uA : Nat → sAcc} {uP : sPar} {uC : sCla} {uD : sDeb} {uJ : sJou} {ur : xF32} {ut : xF32} {ud : Int32} {ug : Int32} {uT0 : Int32} {uT1 : xF32} {uT2 : Int32} {uT3 : Int32} {uT4 : Int32} {uT5 : xF32} {uT6 : xF32} {uT7 : xF32} {uT8 : xF32} {uG0 : Int32} {uG1 : xF32} {uG2 : xF32} {uM0 : Int32} {uM1 : Int32} {uM2 : Int32} {uM3 : Int32} {uM4 : Int32} {uF0 : Int32} {uF1 : xF64} {uF2 : xF64} {uF3 : xF64} {uF4 : xF64} {uF5 : Int32} {uF6 : Int32} {uF7 : Int32} {uF8 : xF32} {uF9 : Int32} {uF10 : Int32} {uF11 : Int64} {uF12 : xF32} {uF13 : Int32} {uF14 : Int32} {uF15 : Int32} {uF16 : xF32} {uF17 : xF32} {uF18 : Int32} {uo : xF64} {uv : Nat → UInt64} {yA : Nat → sAcc} {yP : sPar} {yJ : sJou} {yM1 : Int32} {yM2 : Int32} {yM3 : Int32} {yF0 : Int32} {yF1 : xF64} {yF3 : xF64} {yF4 : xF64} {yF5 : Int32} {yF7 : Int32} {yo : xF64} {A : Nat → Prop} {p : Program} {e : Env} {s : State} {m : MethodId} {args : Array Value} {below : List Frame} {meth : Method} {c : Code} {Q : State → Prop} {b L i kc ks : Nat} {xs : Nat → Int32}
    (hc : xC κ A p s m args meth c cL_law RL 9 (some .boolean)) (hlt : l.stackTraces = false) (hX : va_X b L xs s s.heap) (hbl : b < s.heap.size) (hbA : ¬ A b) (h1 : vp_in ((nI i) + 1) L) (h2 : vp_in ((nI i) + 2) L) (h3 : vp_in ((nI i) + 3) L) (e1 : xs ((nI i) + 1).toNatClampNeg = a1) (e2 : xs ((nI i) + 2).toNatClampNeg = a2) (e3 : xs ((nI i) + 3).toNatClampNeg = a3) (hz0 : kc ≤ room_1.cells ∧ ks ≤ room_1.slots) (hz1 : kc + 1 ≤ room_1.cells ∧ ks + 6 ≤ room_1.slots)
    (hf : f_C_19 fu uA uP uC uD uJ ur ut ud ug uM1 uM2 uM3 uF0 uF1 uF3 uF4 uF5 uF7 uo = some (yA, yP, yJ, yM1, yM2, yM3, yF0, yF1, yF3, yF4, yF5, yF7, yo))
    (K : ∀ (H : Heap) (locs : List Loc) (ls : Array Slot), xW κ A s (upA yA 0 (yP, uC, uD, yJ, ur, ut, ud, ug), (uT0, uT1, uT2, uT3, uT4, uT5, uT6, uT7, uT8), (uG0, uG1, uG2), (uM0, yM1, yM2, yM3, uM4), (yF0, yF1, uF2, yF3, yF4, yF5, uF6, yF7, uF8, uF9, uF10, uF11, uF12, uF13, uF14, uF15, uF16, uF17, uF18), yo, uv) H locs → lv_has ls 9 [(0, .ref b), (1, .ref (xAd κ 234)), (2, .ref (xAd κ 245)), (3, .ref (xAd κ 254)), (4, .ref (xAd κ 255)), (5, .int (nI i))] → W p l e room_1 s m args below meth c H locs (kc + 1) (ks + 6) Q (F0 m 2367 ls [])) :
    ∀ (H : Heap) (locs : List Loc) (ls : Array Slot), xW κ A s (upA uA 0 (uP, uC, uD, uJ, ur, ut, ud, ug), (uT0, uT1, uT2, uT3, uT4, uT5, uT6, uT7, uT8), (uG0, uG1, uG2), (uM0, uM1, uM2, uM3, uM4), (uF0, uF1, uF2, uF3, uF4, uF5, uF6, uF7, uF8, uF9, uF10, uF11, uF12, uF13, uF14, uF15, uF16, uF17, uF18), uo, uv) H locs → lv_has ls 9 [(0, .ref b), (1, .ref (xAd κ 234)), (2, .ref (xAd κ 245)), (3, .ref (xAd κ 254)), (4, .ref (xAd κ 255)), (5, .int (nI i))] → W p l e room_1 s m args below meth c H locs kc ks Q (F0 m 1290 ls []) := by
  have hx := hc.1.1
  have hb := hc.1.2.1
  intro H locs ls hw hl
  unfold f_C_19 at hf
  refine lv_aload_n hx hb dL_law_1290 rfl (lv_at hl 1 rfl) ?_
  refine lv_aload_n hx hb dL_law_1291 rfl (lv_at hl 3 rfl) ?_
  obtain ⟨v1, uA_2, uP_3, uJ_4, uM1_5, uM2_6, uM3_7, uo_8, h9, hf⟩ := xb8_of hf
  refine x_hcalliS (As := [.ref (xAd κ 234), .ref (xAd κ 254)]) (rest := []) (σ' := (upA uA_2 0 (uP_3, uC, uD, uJ_4, ur, ut, ud, ug), (uT0, uT1, uT2, uT3, uT4, uT5, uT6, uT7, uT8), (uG0, uG1, uG2), (uM0, uM1_5, uM2_6, uM3_7, uM4), (uF0, uF1, uF2, uF3, uF4, uF5, uF6, uF7, uF8, uF9, uF10, uF11, uF12, uF13, uF14, uF15, uF16, uF17, uF18), uo_8, uv)) hc hw hl.1 hlt (m_L_giveBack h9) kL_207 rfl rfl ⟨rfl, rfl⟩ ⟨Nat.le_of_ble_eq_true rfl, Nat.le_of_ble_eq_true rfl⟩ hz1 (Nat.le_of_ble_eq_true rfl) dL_law_1292 (fun H locs hw => ?_)
  refine lv_istore (lv' := [(6, .int v1), (0, .ref b), (1, .ref (xAd κ 234)), (2, .ref (xAd κ 245)), (3, .ref (xAd κ 254)), (4, .ref (xAd κ 255)), (5, .int (nI i))]) hx hb dL_law_1295 hl (by decide) rfl (fun ls hl => ?_)
  refine lv_aload_n hx hb dL_law_1297 rfl (lv_at hl 3 rfl) ?_
  obtain ⟨v10, uF0_11, uF1_12, uF3_13, uF4_14, uF5_15, uF7_16, h17, hf⟩ := xb7_of hf
  refine x_calllV (As := []) (rest := []) (σ' := (upA uA_2 0 (uP_3, uC, uD, uJ_4, ur, ut, ud, ug), (uT0, uT1, uT2, uT3, uT4, uT5, uT6, uT7, uT8), (uG0, uG1, uG2), (uM0, uM1_5, uM2_6, uM3_7, uM4), (uF0_11, uF1_12, uF2, uF3_13, uF4_14, uF5_15, uF6, uF7_16, uF8, uF9, uF10, uF11, uF12, uF13, uF14, uF15, uF16, uF17, uF18), uo_8, uv)) hc hw hl.1 (m_X8_giveBack h17) kL_209 co_245 rfl rfl ⟨rfl, rfl⟩ ⟨Nat.le_of_ble_eq_true rfl, Nat.le_of_ble_eq_true rfl⟩ hz1 (Nat.le_of_ble_eq_true rfl) dL_law_1298 (fun H locs hw => ?_)
  refine lv_lstore (lv' := [(7, .long v10), (6, .int v1), (0, .ref b), (1, .ref (xAd κ 234)), (2, .ref (xAd κ 245)), (3, .ref (xAd κ 254)), (4, .ref (xAd κ 255)), (5, .int (nI i))]) hx hb dL_law_1301 hl (by decide) rfl (fun ls hl => ?_)
  refine lv_aload_n hx hb dL_law_1303 rfl (lv_at hl 4 rfl) ?_
  obtain ⟨v18, h19, hf⟩ := xb1_of hf
  refine x_calliV (As := []) (rest := []) (σ' := (upA uA_2 0 (uP_3, uC, uD, uJ_4, ur, ut, ud, ug), (uT0, uT1, uT2, uT3, uT4, uT5, uT6, uT7, uT8), (uG0, uG1, uG2), (uM0, uM1_5, uM2_6, uM3_7, uM4), (uF0_11, uF1_12, uF2, uF3_13, uF4_14, uF5_15, uF6, uF7_16, uF8, uF9, uF10, uF11, uF12, uF13, uF14, uF15, uF16, uF17, uF18), uo_8, uv)) hc hw hl.1 (m_X8_thrown h19) kL_148 co_245 rfl rfl ⟨rfl, rfl⟩ ⟨Nat.le_of_ble_eq_true rfl, Nat.le_of_ble_eq_true rfl⟩ hz1 (Nat.le_of_ble_eq_true rfl) dL_law_1304 (fun H locs hw => ?_)
  refine lv_iload hx hb dL_law_1307 (lv_at hl 1 rfl) ?_
  refine lv_icmp_eq (tgt := 1314) hx hb dL_law_1309 (by decide) (fun c20 => ?_) (fun c20 => ?_)
  · have hf := xif_t c20 hf
    refine lv_iload hx hb dL_law_1314 (lv_at hl 1 rfl) ?_
    refine lv_if_ne (tgt := 1330) hx hb dL_law_1316 (by decide) (fun c21 => ?_) (fun c21 => ?_)
    · have hf := xif_f c21 hf
      refine lv_goto (tgt := 2367) hx hb dL_law_1330 (by decide) ?_
      cases hf
      exact K _ _ _ hw (lv_sub hl [2, 3, 4, 5, 6, 7] rfl)
    · have hf := xif_t c21 hf
      refine lv_aload_n hx hb dL_law_1319 rfl (lv_at hl 5 rfl) ?_
      refine lv_iconst (v := 0) hx hb dL_law_1320 (by decide) ?_
      obtain ⟨k22, hf⟩ := xk_of hf
      refine x_lald (n := 1) (f := uo_8) hc hw co_254 k22 dL_law_1321 ?_
      refine lv_lload hx hb dL_law_1322 (lv_at hl 0 rfl) ?_
      refine x_lcmp_eq (tgt := 1330) hx hb dL_law_1324 dL_law_1325 (by decide) (fun c23 => ?_) (fun c23 => ?_)
      · have hf := xif_t c23 hf
        refine lv_goto (tgt := 2367) hx hb dL_law_1330 (by decide) ?_
        cases hf
        exact K _ _ _ hw (lv_sub hl [2, 3, 4, 5, 6, 7] rfl)
      · have hf := xif_f c23 hf
        refine lv_iconst (v := 0) hx hb dL_law_1328 (by decide) ?_
        cases hf
  · have hf := xif_f c20 hf
    refine lv_iconst (v := 0) hx hb dL_law_1312 (by decide) ?_
    cases hf
