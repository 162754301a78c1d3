theorem z_0 {fu : Nat} {uP : sPar} {uC : sCla} {uD : sDeb} {uJ : sJou} {ur : xF32} {ut : xF32} {ud : Int32} {ug : Int32} {uM2 : Int32} {uF0 : Int32} {uF1 : xF64} {uF5 : Int32} {yP : sPar} {yC : sCla} {yD : sDeb} {yJ : sJou} {yr : xF32} {yt : xF32} {yd : Int32} {yg : Int32} {yM2 : Int32} {yF0 : Int32} {yF1 : xF64} {yF5 : Int32} {w : Int32} (hL : f_X7_clear uP uC uD uJ ur ut ud ug uM2 = some (w, yP, yC, yD, yJ, yr, yt, yd, yg, yM2)) (hX : f_X8_clear fu uF0 uF1 uF5 = some (w, yF0, yF1, yF5)) : f_C_0 fu uP uC uD uJ ur ut ud ug uM2 uF0 uF1 uF5 = some (yP, yC, yD, yJ, yr, yt, yd, yg, yM2, yF0, yF1, yF5) := by
  rw [f_C_0, hL, xb10_s, hX, xb4_s, if_pos rfl]
theorem z_1 {fu : Nat} {a1 a2 : Int32} {uA : Nat → sAcc} {uP : sPar} {uC : sCla} {uD : sDeb} {uJ : sJou} {ur : xF32} {ut : xF32} {ud : Int32} {ug : Int32} {uM1 : Int32} {uM2 : Int32} {uF0 : Int32} {uF1 : xF64} {uF3 : xF64} {uF4 : xF64} {uF5 : Int32} {uo : xF64} {yA : Nat → sAcc} {yP : sPar} {yM1 : Int32} {yM2 : Int32} {yF0 : Int32} {yF1 : xF64} {yF3 : xF64} {yF4 : xF64} {yF5 : Int32} {yo : xF64} {k : Int32} {b : Int32} (hL : f_L_addParty a1 a2 uA uP uC uD uJ ur ut ud ug uM1 uM2 uo = some (k, yA, yP, yM1, yM2, yo)) (hX : f_X8_addParty fu a1 a2 uF0 uF1 uF3 uF4 uF5 = some (b, yF0, yF1, yF3, yF4, yF5)) (hk : yF0 = k) (ho : k = 0 → yo 0 = b.toInt64) : f_C_1 fu a1 a2 uA uP uC uD uJ ur ut ud ug uM1 uM2 uF0 uF1 uF3 uF4 uF5 uo = some (yA, yP, yM1, yM2, yF0, yF1, yF3, yF4, yF5, yo) := by
  have c0 : (0 : Int32).toNatClampNeg = 0 := rfl
  have i01 : xin 0 1 = true := by decide
  subst hk
  rw [f_C_1, hL, xb6_s, hX, xb6_s, f_X8_thrown, xb1_s, if_pos rfl]
  by_cases q : yF0 = 0
  · rw [if_pos q, y_xk i01, c0, if_pos (ho q)]
  · rw [if_neg q]
theorem z_2 {fu : Nat} {a1 a2 : Int32} {uA : Nat → sAcc} {uP : sPar} {uC : sCla} {uD : sDeb} {uJ : sJou} {ur : xF32} {ut : xF32} {ud : Int32} {ug : Int32} {uM1 : Int32} {uM2 : Int32} {uM3 : Int32} {uF0 : Int32} {uF1 : xF64} {uF3 : xF64} {uF4 : xF64} {uF5 : Int32} {uo : xF64} {yA : Nat → sAcc} {yr : xF32} {yM1 : Int32} {yM2 : Int32} {yM3 : Int32} {yF0 : Int32} {yF1 : xF64} {yF3 : xF64} {yF4 : xF64} {yF5 : Int32} {yo : xF64} {k : Int32} {b : Int32} (hL : f_L_setRate a1 a2 uA uP uC uD uJ ur ut ud ug uM1 uM2 uM3 uo = some (k, yA, yr, yM1, yM2, yM3, yo)) (hX : f_X8_setRate fu a1 a2 uF0 uF1 uF3 uF4 uF5 = some (b, yF0, yF1, yF3, yF4, yF5)) (hk : yF0 = k) (ho : k = 0 → yo 0 = b.toInt64) : f_C_2 fu a1 a2 uA uP uC uD uJ ur ut ud ug uM1 uM2 uM3 uF0 uF1 uF3 uF4 uF5 uo = some (yA, yr, yM1, yM2, yM3, yF0, yF1, yF3, yF4, yF5, yo) := by
  have c0 : (0 : Int32).toNatClampNeg = 0 := rfl
  have i01 : xin 0 1 = true := by decide
  subst hk
  rw [f_C_2, hL, xb7_s, hX, xb6_s, f_X8_thrown, xb1_s, if_pos rfl]
  by_cases q : yF0 = 0
  · rw [if_pos q, y_xk i01, c0, if_pos (ho q)]
  · rw [if_neg q]
theorem z_3 {fu : Nat} {a1 a2 : Int32} {uA : Nat → sAcc} {uP : sPar} {uC : sCla} {uD : sDeb} {uJ : sJou} {ur : xF32} {ut : xF32} {ud : Int32} {ug : Int32} {uM1 : Int32} {uM2 : Int32} {uM3 : Int32} {uF0 : Int32} {uF1 : xF64} {uF3 : xF64} {uF4 : xF64} {uF5 : Int32} {uo : xF64} {yA : Nat → sAcc} {yt : xF32} {yM1 : Int32} {yM2 : Int32} {yM3 : Int32} {yF0 : Int32} {yF1 : xF64} {yF3 : xF64} {yF4 : xF64} {yF5 : Int32} {yo : xF64} {k : Int32} {b : Int32} (hL : f_L_setTier a1 a2 uA uP uC uD uJ ur ut ud ug uM1 uM2 uM3 uo = some (k, yA, yt, yM1, yM2, yM3, yo)) (hX : f_X8_setTier fu a1 a2 uF0 uF1 uF3 uF4 uF5 = some (b, yF0, yF1, yF3, yF4, yF5)) (hk : yF0 = k) (ho : k = 0 → yo 0 = b.toInt64) : f_C_3 fu a1 a2 uA uP uC uD uJ ur ut ud ug uM1 uM2 uM3 uF0 uF1 uF3 uF4 uF5 uo = some (yA, yt, yM1, yM2, yM3, yF0, yF1, yF3, yF4, yF5, yo) := by
  have c0 : (0 : Int32).toNatClampNeg = 0 := rfl
  have i01 : xin 0 1 = true := by decide
  subst hk
  rw [f_C_3, hL, xb7_s, hX, xb6_s, f_X8_thrown, xb1_s, if_pos rfl]
  by_cases q : yF0 = 0
  · rw [if_pos q, y_xk i01, c0, if_pos (ho q)]
  · rw [if_neg q]
theorem z_4 {fu : Nat} {a1 a2 : Int32} {uP : sPar} {uC : sCla} {uD : sDeb} {ut : xF32} {uM3 : Int32} {uF0 : Int32} {uF1 : xF64} {uo : xF64} {yM3 : Int32} {yF0 : Int32} {yo : xF64} {k : Int32} {b : Int64} (hL : f_L_party fu a1 a2 uP uC uD ut uM3 uo = some (k, yM3, yo)) (hX : f_X8_party fu a1 a2 uF0 uF1 = some (b, yF0)) (hk : yF0 = k) (ho : k = 0 → yo 0 = b) : f_C_4 fu a1 a2 uP uC uD ut uM3 uF0 uF1 uo = some (yM3, yF0, yo) := by
  have c0 : (0 : Int32).toNatClampNeg = 0 := rfl
  have i01 : xin 0 1 = true := by decide
  subst hk
  rw [f_C_4, hL, xb3_s, hX, xb2_s, f_X8_thrown, xb1_s, if_pos rfl]
  by_cases q : yF0 = 0
  · rw [if_pos q, y_xk i01, c0, if_pos (ho q)]
  · rw [if_neg q]
theorem z_5 {fu : Nat} {a1 a2 a3 : Int32} {uA : Nat → sAcc} {uP : sPar} {uC : sCla} {uD : sDeb} {uJ : sJou} {ur : xF32} {ut : xF32} {ud : Int32} {ug : Int32} {uM1 : Int32} {uM2 : Int32} {uM3 : Int32} {uF0 : Int32} {uF1 : xF64} {uF3 : xF64} {uF4 : xF64} {uF5 : Int32} {uF11 : Int64} {uo : xF64} {yA : Nat → sAcc} {yC : sCla} {yM1 : Int32} {yM2 : Int32} {yM3 : Int32} {yF0 : Int32} {yF1 : xF64} {yF3 : xF64} {yF4 : xF64} {yF5 : Int32} {yF11 : Int64} {yo : xF64} {k : Int32} {b : Int32} (hL : f_L_claim a1 a2 a3 uA uP uC uD uJ ur ut ud ug uM1 uM2 uM3 uo = some (k, yA, yC, yM1, yM2, yM3, yo)) (hX : f_X8_claim fu a1 a2 a3 uF0 uF1 uF3 uF4 uF5 uF11 = some (b, yF0, yF1, yF3, yF4, yF5, yF11)) (hk : yF0 = k) (ho : k = 0 → yo 0 = b.toInt64) : f_C_5 fu a1 a2 a3 uA uP uC uD uJ ur ut ud ug uM1 uM2 uM3 uF0 uF1 uF3 uF4 uF5 uF11 uo = some (yA, yC, yM1, yM2, yM3, yF0, yF1, yF3, yF4, yF5, yF11, yo) := by
  have c0 : (0 : Int32).toNatClampNeg = 0 := rfl
  have i01 : xin 0 1 = true := by decide
  subst hk
  rw [f_C_5, hL, xb7_s, hX, xb7_s, f_X8_thrown, xb1_s, if_pos rfl]
  by_cases q : yF0 = 0
  · rw [if_pos q, y_xk i01, c0, if_pos (ho q)]
  · rw [if_neg q]
theorem z_6 {fu : Nat} {a1 a2 : Int32} {uA : Nat → sAcc} {uP : sPar} {uC : sCla} {uD : sDeb} {uJ : sJou} {ur : xF32} {ut : xF32} {ud : Int32} {ug : Int32} {uM1 : Int32} {uM2 : Int32} {uM3 : Int32} {uF0 : Int32} {uF1 : xF64} {uF3 : xF64} {uF4 : xF64} {uF5 : Int32} {uF7 : Int32} {uF11 : Int64} {uo : xF64} {yA : Nat → sAcc} {yC : sCla} {yD : sDeb} {yJ : sJou} {yM1 : Int32} {yM2 : Int32} {yM3 : Int32} {yF0 : Int32} {yF1 : xF64} {yF3 : xF64} {yF4 : xF64} {yF5 : Int32} {yF7 : Int32} {yF11 : Int64} {yo : xF64} {k : Int32} {b : Int32} (hL : f_L_award fu a1 a2 uA uP uC uD uJ ur ut ud ug uM1 uM2 uM3 uo = some (k, yA, yC, yD, yJ, yM1, yM2, yM3, yo)) (hX : f_X8_award fu a1 a2 uF0 uF1 uF3 uF4 uF5 uF7 uF11 = some (b, yF0, yF1, yF3, yF4, yF5, yF7, yF11)) (hk : yF0 = k) (ho : k = 0 → yo 0 = b.toInt64) : f_C_6 fu a1 a2 uA uP uC uD uJ ur ut ud ug uM1 uM2 uM3 uF0 uF1 uF3 uF4 uF5 uF7 uF11 uo = some (yA, yC, yD, yJ, yM1, yM2, yM3, yF0, yF1, yF3, yF4, yF5, yF7, yF11, yo) := by
  have c0 : (0 : Int32).toNatClampNeg = 0 := rfl
  have i01 : xin 0 1 = true := by decide
  subst hk
  rw [f_C_6, hL, xb9_s, hX, xb8_s, f_X8_thrown, xb1_s, if_pos rfl]
  by_cases q : yF0 = 0
  · rw [if_pos q, y_xk i01, c0, if_pos (ho q)]
  · rw [if_neg q]
theorem z_7 {fu : Nat} {a1 a2 : Int32} {uA : Nat → sAcc} {uP : sPar} {uC : sCla} {uD : sDeb} {uJ : sJou} {ur : xF32} {ut : xF32} {ud : Int32} {ug : Int32} {uM1 : Int32} {uM2 : Int32} {uM3 : Int32} {uF0 : Int32} {uF1 : xF64} {uF3 : xF64} {uF4 : xF64} {uF5 : Int32} {uF7 : Int32} {uF11 : Int64} {uo : xF64} {yA : Nat → sAcc} {yC : sCla} {yJ : sJou} {yM1 : Int32} {yM2 : Int32} {yM3 : Int32} {yF0 : Int32} {yF1 : xF64} {yF3 : xF64} {yF4 : xF64} {yF5 : Int32} {yF7 : Int32} {yF11 : Int64} {yo : xF64} {k : Int32} {b : Int32} (hL : f_L_dismiss fu a1 a2 uA uP uC uD uJ ur ut ud ug uM1 uM2 uM3 uo = some (k, yA, yC, yJ, yM1, yM2, yM3, yo)) (hX : f_X8_dismiss fu a1 a2 uF0 uF1 uF3 uF4 uF5 uF7 uF11 = some (b, yF0, yF1, yF3, yF4, yF5, yF7, yF11)) (hk : yF0 = k) (ho : k = 0 → yo 0 = b.toInt64) : f_C_7 fu a1 a2 uA uP uC uD uJ ur ut ud ug uM1 uM2 uM3 uF0 uF1 uF3 uF4 uF5 uF7 uF11 uo = some (yA, yC, yJ, yM1, yM2, yM3, yF0, yF1, yF3, yF4, yF5, yF7, yF11, yo) := by
  have c0 : (0 : Int32).toNatClampNeg = 0 := rfl
  have i01 : xin 0 1 = true := by decide
  subst hk
  rw [f_C_7, hL, xb8_s, hX, xb8_s, f_X8_thrown, xb1_s, if_pos rfl]
  by_cases q : yF0 = 0
  · rw [if_pos q, y_xk i01, c0, if_pos (ho q)]
  · rw [if_neg q]
theorem z_8 {fu : Nat} {a1 a2 : Int32} {uA : Nat → sAcc} {uP : sPar} {uC : sCla} {uD : sDeb} {uJ : sJou} {ur : xF32} {ut : xF32} {ud : Int32} {ug : Int32} {uM1 : Int32} {uM2 : Int32} {uM3 : Int32} {uF0 : Int32} {uF1 : xF64} {uF3 : xF64} {uF4 : xF64} {uF5 : Int32} {uF7 : Int32} {uF11 : Int64} {uo : xF64} {yA : Nat → sAcc} {yC : sCla} {yJ : sJou} {yM1 : Int32} {yM2 : Int32} {yM3 : Int32} {yF0 : Int32} {yF1 : xF64} {yF3 : xF64} {yF4 : xF64} {yF5 : Int32} {yF7 : Int32} {yF11 : Int64} {yo : xF64} {k : Int32} {b : Int32} (hL : f_L_withdraw fu a1 a2 uA uP uC uD uJ ur ut ud ug uM1 uM2 uM3 uo = some (k, yA, yC, yJ, yM1, yM2, yM3, yo)) (hX : f_X8_withdraw fu a1 a2 uF0 uF1 uF3 uF4 uF5 uF7 uF11 = some (b, yF0, yF1, yF3, yF4, yF5, yF7, yF11)) (hk : yF0 = k) (ho : k = 0 → yo 0 = b.toInt64) : f_C_8 fu a1 a2 uA uP uC uD uJ ur ut ud ug uM1 uM2 uM3 uF0 uF1 uF3 uF4 uF5 uF7 uF11 uo = some (yA, yC, yJ, yM1, yM2, yM3, yF0, yF1, yF3, yF4, yF5, yF7, yF11, yo) := by
  have c0 : (0 : Int32).toNatClampNeg = 0 := rfl
  have i01 : xin 0 1 = true := by decide
  subst hk
  rw [f_C_8, hL, xb8_s, hX, xb8_s, f_X8_thrown, xb1_s, if_pos rfl]
  by_cases q : yF0 = 0
  · rw [if_pos q, y_xk i01, c0, if_pos (ho q)]
  · rw [if_neg q]
theorem z_9 {fu : Nat} {a1 a2 : Int32} {uC : sCla} {uM3 : Int32} {uF0 : Int32} {uF1 : xF64} {uo : xF64} {yM3 : Int32} {yF0 : Int32} {yo : xF64} {k : Int32} {b : Int32} (hL : f_L_claimed a1 a2 uC uM3 uo = some (k, yM3, yo)) (hX : f_X8_claimed a1 a2 uF0 uF1 = some (b, yF0)) (hk : yF0 = k) (ho : k = 0 → yo 0 = b.toInt64) : f_C_9 fu a1 a2 uC uM3 uF0 uF1 uo = some (yM3, yF0, yo) := by
  have c0 : (0 : Int32).toNatClampNeg = 0 := rfl
  have i01 : xin 0 1 = true := by decide
  subst hk
  rw [f_C_9, hL, xb3_s, hX, xb2_s, f_X8_thrown, xb1_s, if_pos rfl]
  by_cases q : yF0 = 0
  · rw [if_pos q, y_xk i01, c0, if_pos (ho q)]
  · rw [if_neg q]
theorem z_10 {fu : Nat} {uM3 : Int32} {uF0 : Int32} {uF7 : Int32} {uo : xF64} {yF0 : Int32} {yo : xF64} {k : Int32} {b : Int32} (hL : f_L_reason uM3 uo = some (k, yo)) (hX : f_X8_reason uF0 uF7 = some (b, yF0)) (hk : yF0 = k) (ho : k = 0 → yo 0 = b.toInt64) : f_C_10 fu uM3 uF0 uF7 uo = some (yF0, yo) := by
  have c0 : (0 : Int32).toNatClampNeg = 0 := rfl
  have i01 : xin 0 1 = true := by decide
  subst hk
  rw [f_C_10, hL, xb2_s, hX, xb2_s, f_X8_thrown, xb1_s, if_pos rfl]
  by_cases q : yF0 = 0
  · rw [if_pos q, y_xk i01, c0, if_pos (ho q)]
  · rw [if_neg q]
theorem z_11 {fu : Nat} {uC : sCla} {uF0 : Int32} {uF1 : xF64} {yF0 : Int32} {w : Int64} (hL : f_X7_inDispute fu uC = some (w)) (hX : f_X8_inDispute fu uF0 uF1 = some (w, yF0)) : f_C_11 fu uC uF0 uF1 = some (yF0) := by
  rw [f_C_11, hL, xb1_s, hX, xb2_s, if_pos rfl]
theorem z_12 {fu : Nat} {a1 : Int32} {uC : sCla} {ut : xF32} {uF0 : Int32} {uF1 : xF64} {uo : xF64} {yF0 : Int32} {yo : xF64} {k : Int32} {b : Int64} (hL : f_L_fees fu a1 uC ut uo = some (k, yo)) (hX : f_X8_fees fu a1 uF0 uF1 = some (b, yF0)) (hk : yF0 = k) (ho : k = 0 → yo 0 = b) : f_C_12 fu a1 uC ut uF0 uF1 uo = some (yF0, yo) := by
  have c0 : (0 : Int32).toNatClampNeg = 0 := rfl
  have i01 : xin 0 1 = true := by decide
  subst hk
  rw [f_C_12, hL, xb2_s, hX, xb2_s, f_X8_thrown, xb1_s, if_pos rfl]
  by_cases q : yF0 = 0
  · rw [if_pos q, y_xk i01, c0, if_pos (ho q)]
  · rw [if_neg q]
theorem z_13 {fu : Nat} {a1 : Int32} {ut : xF32} {uF0 : Int32} {uF1 : xF64} {uo : xF64} {yF0 : Int32} {yo : xF64} {k : Int32} {b : Int64} (hL : f_L_wouldBe fu a1 ut uo = some (k, yo)) (hX : f_X8_wouldBe a1 uF0 uF1 = some (b, yF0)) (hk : yF0 = k) (ho : k = 0 → yo 0 = b) : f_C_13 fu a1 ut uF0 uF1 uo = some (yF0, yo) := by
  have c0 : (0 : Int32).toNatClampNeg = 0 := rfl
  have i01 : xin 0 1 = true := by decide
  subst hk
  rw [f_C_13, hL, xb2_s, hX, xb2_s, f_X8_thrown, xb1_s, if_pos rfl]
  by_cases q : yF0 = 0
  · rw [if_pos q, y_xk i01, c0, if_pos (ho q)]
  · rw [if_neg q]
theorem z_14 {fu : Nat} {a1 a2 : Int32} {uP : sPar} {uC : sCla} {ut : xF32} {uM3 : Int32} {uF0 : Int32} {uF1 : xF64} {uo : xF64} {yM3 : Int32} {yF0 : Int32} {yo : xF64} {k : Int32} {b : Int64} (hL : f_L_side fu a1 a2 uP uC ut uM3 uo = some (k, yM3, yo)) (hX : f_X8_side fu a1 a2 uF0 uF1 = some (b, yF0)) (hk : yF0 = k) (ho : k = 0 → yo 0 = b) : f_C_14 fu a1 a2 uP uC ut uM3 uF0 uF1 uo = some (yM3, yF0, yo) := by
  have c0 : (0 : Int32).toNatClampNeg = 0 := rfl
  have i01 : xin 0 1 = true := by decide
  subst hk
  rw [f_C_14, hL, xb3_s, hX, xb2_s, f_X8_thrown, xb1_s, if_pos rfl]
  by_cases q : yF0 = 0
  · rw [if_pos q, y_xk i01, c0, if_pos (ho q)]
  · rw [if_neg q]
theorem z_15 {fu : Nat} {a1 : Int32} {uA : Nat → sAcc} {uP : sPar} {uC : sCla} {uD : sDeb} {uJ : sJou} {ur : xF32} {ut : xF32} {ud : Int32} {ug : Int32} {uM1 : Int32} {uM2 : Int32} {uF0 : Int32} {uF1 : xF64} {uF3 : xF64} {uF4 : xF64} {uF5 : Int32} {uo : xF64} {yA : Nat → sAcc} {yP : sPar} {yJ : sJou} {yM1 : Int32} {yM2 : Int32} {yF0 : Int32} {yF1 : xF64} {yF3 : xF64} {yF4 : xF64} {yF5 : Int32} {yo : xF64} {k : Int32} {b : Int64} (hL : f_L_call fu a1 uA uP uC uD uJ ur ut ud ug uM1 uM2 uo = some (k, yA, yP, yJ, yM1, yM2, yo)) (hX : f_X8_call fu a1 uF0 uF1 uF3 uF4 uF5 = some (b, yF0, yF1, yF3, yF4, yF5)) (hk : yF0 = k) (ho : k = 0 → yo 0 = b) : f_C_15 fu a1 uA uP uC uD uJ ur ut ud ug uM1 uM2 uF0 uF1 uF3 uF4 uF5 uo = some (yA, yP, yJ, yM1, yM2, yF0, yF1, yF3, yF4, yF5, yo) := by
  have c0 : (0 : Int32).toNatClampNeg = 0 := rfl
  have i01 : xin 0 1 = true := by decide
  subst hk
  rw [f_C_15, hL, xb7_s, hX, xb6_s, f_X8_thrown, xb1_s, if_pos rfl]
  by_cases q : yF0 = 0
  · rw [if_pos q, y_xk i01, c0, if_pos (ho q)]
  · rw [if_neg q]
theorem z_16 {fu : Nat} {a1 a2 : Int32} {uA : Nat → sAcc} {uP : sPar} {uC : sCla} {uD : sDeb} {uJ : sJou} {ur : xF32} {ut : xF32} {ud : Int32} {ug : Int32} {uM1 : Int32} {uM2 : Int32} {uM3 : Int32} {uF0 : Int32} {uF1 : xF64} {uF3 : xF64} {uF4 : xF64} {uF5 : Int32} {uF11 : Int64} {uo : xF64} {yA : Nat → sAcc} {yP : sPar} {yJ : sJou} {yM1 : Int32} {yM2 : Int32} {yM3 : Int32} {yF0 : Int32} {yF1 : xF64} {yF3 : xF64} {yF4 : xF64} {yF5 : Int32} {yF11 : Int64} {yo : xF64} {k : Int32} {b : Int64} (hL : f_L_pay fu a1 a2 uA uP uC uD uJ ur ut ud ug uM1 uM2 uM3 uo = some (k, yA, yP, yJ, yM1, yM2, yM3, yo)) (hX : f_X8_pay fu a1 a2 uF0 uF1 uF3 uF4 uF5 uF11 = some (b, yF0, yF1, yF3, yF4, yF5, yF11)) (hk : yF0 = k) (ho : k = 0 → yo 0 = b) : f_C_16 fu a1 a2 uA uP uC uD uJ ur ut ud ug uM1 uM2 uM3 uF0 uF1 uF3 uF4 uF5 uF11 uo = some (yA, yP, yJ, yM1, yM2, yM3, yF0, yF1, yF3, yF4, yF5, yF11, yo) := by
  have c0 : (0 : Int32).toNatClampNeg = 0 := rfl
  have i01 : xin 0 1 = true := by decide
  subst hk
  rw [f_C_16, hL, xb8_s, hX, xb7_s, f_X8_thrown, xb1_s, if_pos rfl]
  by_cases q : yF0 = 0
  · rw [if_pos q, y_xk i01, c0, if_pos (ho q)]
  · rw [if_neg q]
theorem z_17 {fu : Nat} {a1 a2 : Int32} {uA : Nat → sAcc} {uP : sPar} {uC : sCla} {uD : sDeb} {uJ : sJou} {ur : xF32} {ut : xF32} {ud : Int32} {ug : Int32} {uM1 : Int32} {uM2 : Int32} {uM3 : Int32} {uF0 : Int32} {uF1 : xF64} {uF3 : xF64} {uF4 : xF64} {uF5 : Int32} {uo : xF64} {yA : Nat → sAcc} {yP : sPar} {yD : sDeb} {yJ : sJou} {yM1 : Int32} {yM2 : Int32} {yM3 : Int32} {yF0 : Int32} {yF1 : xF64} {yF3 : xF64} {yF4 : xF64} {yF5 : Int32} {yo : xF64} {k : Int32} {b : Int64} (hL : f_L_payFor fu a1 a2 uA uP uC uD uJ ur ut ud ug uM1 uM2 uM3 uo = some (k, yA, yP, yD, yJ, yM1, yM2, yM3, yo)) (hX : f_X8_payFor fu a1 a2 uF0 uF1 uF3 uF4 uF5 = some (b, yF0, yF1, yF3, yF4, yF5)) (hk : yF0 = k) (ho : k = 0 → yo 0 = b) : f_C_17 fu a1 a2 uA uP uC uD uJ ur ut ud ug uM1 uM2 uM3 uF0 uF1 uF3 uF4 uF5 uo = some (yA, yP, yD, yJ, yM1, yM2, yM3, yF0, yF1, yF3, yF4, yF5, yo) := by
  have c0 : (0 : Int32).toNatClampNeg = 0 := rfl
  have i01 : xin 0 1 = true := by decide
  subst hk
  rw [f_C_17, hL, xb9_s, hX, xb6_s, f_X8_thrown, xb1_s, if_pos rfl]
  by_cases q : yF0 = 0
  · rw [if_pos q, y_xk i01, c0, if_pos (ho q)]
  · rw [if_neg q]
theorem z_18 {fu : Nat} {uA : Nat → sAcc} {uP : sPar} {uC : sCla} {uD : sDeb} {uJ : sJou} {ur : xF32} {ut : xF32} {ud : Int32} {ug : Int32} {uM1 : Int32} {uM2 : Int32} {uF0 : Int32} {uF1 : xF64} {uF3 : xF64} {uF4 : xF64} {uF5 : Int32} {yA : Nat → sAcc} {yP : sPar} {yJ : sJou} {yM1 : Int32} {yM2 : Int32} {yF0 : Int32} {yF1 : xF64} {yF3 : xF64} {yF4 : xF64} {yF5 : Int32} {w : Int64} (hL : f_X7_takeFees fu uA uP uC uD uJ ur ut ud ug uM1 uM2 = some (w, yA, yP, yJ, yM1, yM2)) (hX : f_X8_takeFees fu uF0 uF1 uF3 uF4 uF5 = some (w, yF0, yF1, yF3, yF4, yF5)) : f_C_18 fu uA uP uC uD uJ ur ut ud ug uM1 uM2 uF0 uF1 uF3 uF4 uF5 = some (yA, yP, yJ, yM1, yM2, yF0, yF1, yF3, yF4, yF5) := by
  rw [f_C_18, hL, xb6_s, hX, xb6_s, if_pos rfl]
theorem z_19 {fu : Nat} {uA : Nat → sAcc} {uP : sPar} {uC : sCla} {uD : sDeb} {uJ : sJou} {ur : xF32} {ut : xF32} {ud : Int32} {ug : Int32} {uM1 : Int32} {uM2 : Int32} {uM3 : Int32} {uF0 : Int32} {uF1 : xF64} {uF3 : xF64} {uF4 : xF64} {uF5 : Int32} {uF7 : Int32} {uo : xF64} {yA : Nat → sAcc} {yP : sPar} {yJ : sJou} {yM1 : Int32} {yM2 : Int32} {yM3 : Int32} {yF0 : Int32} {yF1 : xF64} {yF3 : xF64} {yF4 : xF64} {yF5 : Int32} {yF7 : Int32} {yo : xF64} {k : Int32} {b : Int64} (hL : f_L_giveBack fu uA uP uC uD uJ ur ut ud ug uM1 uM2 uM3 uo = some (k, yA, yP, yJ, yM1, yM2, yM3, yo)) (hX : f_X8_giveBack fu uF0 uF1 uF3 uF4 uF5 uF7 = some (b, yF0, yF1, yF3, yF4, yF5, yF7)) (hk : yF0 = k) (ho : k = 0 → yo 0 = b) : f_C_19 fu uA uP uC uD uJ ur ut ud ug uM1 uM2 uM3 uF0 uF1 uF3 uF4 uF5 uF7 uo = some (yA, yP, yJ, yM1, yM2, yM3, yF0, yF1, yF3, yF4, yF5, yF7, yo) := by
  have c0 : (0 : Int32).toNatClampNeg = 0 := rfl
  have i01 : xin 0 1 = true := by decide
  subst hk
  rw [f_C_19, hL, xb8_s, hX, xb7_s, f_X8_thrown, xb1_s, if_pos rfl]
  by_cases q : yF0 = 0
  · rw [if_pos q, y_xk i01, c0, if_pos (ho q)]
  · rw [if_neg q]
theorem z_20 {fu : Nat} {a1 a2 : Int32} {uP : sPar} {uD : sDeb} {uF0 : Int32} {uF1 : xF64} {uo : xF64} {yF0 : Int32} {yo : xF64} {k : Int32} {b : Int64} (hL : f_L_owed fu a1 a2 uP uD uo = some (k, yo)) (hX : f_X8_owed fu a1 a2 uF0 uF1 = some (b, yF0)) (hk : yF0 = k) (ho : k = 0 → yo 0 = b) : f_C_20 fu a1 a2 uP uD uF0 uF1 uo = some (yF0, yo) := by
  have c0 : (0 : Int32).toNatClampNeg = 0 := rfl
  have i01 : xin 0 1 = true := by decide
  subst hk
  rw [f_C_20, hL, xb2_s, hX, xb2_s, f_X8_thrown, xb1_s, if_pos rfl]
  by_cases q : yF0 = 0
  · rw [if_pos q, y_xk i01, c0, if_pos (ho q)]
  · rw [if_neg q]
theorem z_21 {fu : Nat} {a1 a2 : Int32} {uD : sDeb} {uM3 : Int32} {uF0 : Int32} {uF1 : xF64} {uo : xF64} {yM3 : Int32} {yF0 : Int32} {yo : xF64} {k : Int32} {b : Int64} (hL : f_L_debt a1 a2 uD uM3 uo = some (k, yM3, yo)) (hX : f_X8_debt a1 a2 uF0 uF1 = some (b, yF0)) (hk : yF0 = k) (ho : k = 0 → yo 0 = b) : f_C_21 fu a1 a2 uD uM3 uF0 uF1 uo = some (yM3, yF0, yo) := by
  have c0 : (0 : Int32).toNatClampNeg = 0 := rfl
  have i01 : xin 0 1 = true := by decide
  subst hk
  rw [f_C_21, hL, xb3_s, hX, xb2_s, f_X8_thrown, xb1_s, if_pos rfl]
  by_cases q : yF0 = 0
  · rw [if_pos q, y_xk i01, c0, if_pos (ho q)]
  · rw [if_neg q]
theorem z_22 {fu : Nat} {a1 a2 a3 : Int32} {uA : Nat → sAcc} {uP : sPar} {uC : sCla} {uD : sDeb} {uJ : sJou} {ur : xF32} {ut : xF32} {ud : Int32} {ug : Int32} {uM1 : Int32} {uM2 : Int32} {uM3 : Int32} {uF0 : Int32} {uF1 : xF64} {uF3 : xF64} {uF4 : xF64} {uF5 : Int32} {uF7 : Int32} {uF11 : Int64} {uo : xF64} {yA : Nat → sAcc} {yD : sDeb} {yJ : sJou} {yM1 : Int32} {yM2 : Int32} {yM3 : Int32} {yF0 : Int32} {yF1 : xF64} {yF3 : xF64} {yF4 : xF64} {yF5 : Int32} {yF7 : Int32} {yF11 : Int64} {yo : xF64} {k : Int32} {b : Int64} (hL : f_L_settle fu a1 a2 a3 uA uP uC uD uJ ur ut ud ug uM1 uM2 uM3 uo = some (k, yA, yD, yJ, yM1, yM2, yM3, yo)) (hX : f_X8_settle fu a1 a2 a3 uF0 uF1 uF3 uF4 uF5 uF7 uF11 = some (b, yF0, yF1, yF3, yF4, yF5, yF7, yF11)) (hk : yF0 = k) (ho : k = 0 → yo 0 = b) : f_C_22 fu a1 a2 a3 uA uP uC uD uJ ur ut ud ug uM1 uM2 uM3 uF0 uF1 uF3 uF4 uF5 uF7 uF11 uo = some (yA, yD, yJ, yM1, yM2, yM3, yF0, yF1, yF3, yF4, yF5, yF7, yF11, yo) := by
  have c0 : (0 : Int32).toNatClampNeg = 0 := rfl
  have i01 : xin 0 1 = true := by decide
  subst hk
  rw [f_C_22, hL, xb8_s, hX, xb8_s, f_X8_thrown, xb1_s, if_pos rfl]
  by_cases q : yF0 = 0
  · rw [if_pos q, y_xk i01, c0, if_pos (ho q)]
  · rw [if_neg q]
theorem z_23 {fu : Nat} {a1 a2 : Int32} {uA : Nat → sAcc} {uP : sPar} {uC : sCla} {uD : sDeb} {uJ : sJou} {ur : xF32} {ut : xF32} {ud : Int32} {ug : Int32} {uM1 : Int32} {uM2 : Int32} {uM3 : Int32} {uF0 : Int32} {uF1 : xF64} {uF3 : xF64} {uF4 : xF64} {uF5 : Int32} {uF7 : Int32} {uo : xF64} {yA : Nat → sAcc} {yD : sDeb} {yJ : sJou} {yM1 : Int32} {yM2 : Int32} {yM3 : Int32} {yF0 : Int32} {yF1 : xF64} {yF3 : xF64} {yF4 : xF64} {yF5 : Int32} {yF7 : Int32} {yo : xF64} {k : Int32} {b : Int64} (hL : f_L_offset fu a1 a2 uA uP uC uD uJ ur ut ud ug uM1 uM2 uM3 uo = some (k, yA, yD, yJ, yM1, yM2, yM3, yo)) (hX : f_X8_offset fu a1 a2 uF0 uF1 uF3 uF4 uF5 uF7 = some (b, yF0, yF1, yF3, yF4, yF5, yF7)) (hk : yF0 = k) (ho : k = 0 → yo 0 = b) : f_C_23 fu a1 a2 uA uP uC uD uJ ur ut ud ug uM1 uM2 uM3 uF0 uF1 uF3 uF4 uF5 uF7 uo = some (yA, yD, yJ, yM1, yM2, yM3, yF0, yF1, yF3, yF4, yF5, yF7, yo) := by
  have c0 : (0 : Int32).toNatClampNeg = 0 := rfl
  have i01 : xin 0 1 = true := by decide
  subst hk
  rw [f_C_23, hL, xb8_s, hX, xb7_s, f_X8_thrown, xb1_s, if_pos rfl]
  by_cases q : yF0 = 0
  · rw [if_pos q, y_xk i01, c0, if_pos (ho q)]
  · rw [if_neg q]
theorem z_24 {fu : Nat} {a1 : Int32} {uD : sDeb} {uG0 : Int32} {uG1 : xF32} {uG2 : xF32} {uF0 : Int32} {uF1 : xF64} {uF12 : xF32} {uo : xF64} {yG0 : Int32} {yG1 : xF32} {yG2 : xF32} {yF0 : Int32} {yF12 : xF32} {yo : xF64} {k : Int32} {b : Int32} (hL : f_L_ring fu a1 uD uG0 uG1 uG2 uo = some (k, yG0, yG1, yG2, yo)) (hX : f_X8_ring fu a1 uF0 uF1 uF12 = some (b, yF0, yF12)) (hk : yF0 = k) (ho : k = 0 → yo 0 = b.toInt64) : f_C_24 fu a1 uD uG0 uG1 uG2 uF0 uF1 uF12 uo = some (yG0, yG1, yG2, yF0, yF12, yo) := by
  have c0 : (0 : Int32).toNatClampNeg = 0 := rfl
  have i01 : xin 0 1 = true := by decide
  subst hk
  rw [f_C_24, hL, xb5_s, hX, xb3_s, f_X8_thrown, xb1_s, if_pos rfl]
  by_cases q : yF0 = 0
  · rw [if_pos q, y_xk i01, c0, if_pos (ho q)]
  · rw [if_neg q]
theorem z_25 {fu : Nat} {uA : Nat → sAcc} {uP : sPar} {uC : sCla} {uD : sDeb} {uJ : sJou} {ur : xF32} {ut : xF32} {ud : Int32} {ug : Int32} {uG0 : Int32} {uG1 : xF32} {uG2 : xF32} {uM1 : Int32} {uM2 : Int32} {uF0 : Int32} {uF1 : xF64} {uF3 : xF64} {uF4 : xF64} {uF5 : Int32} {uF12 : xF32} {yA : Nat → sAcc} {yD : sDeb} {yJ : sJou} {yG0 : Int32} {yG1 : xF32} {yG2 : xF32} {yM1 : Int32} {yM2 : Int32} {yF0 : Int32} {yF1 : xF64} {yF3 : xF64} {yF4 : xF64} {yF5 : Int32} {yF12 : xF32} {w : Int64} (hL : f_X7_clearRings fu uA uP uC uD uJ ur ut ud ug uG0 uG1 uG2 uM1 uM2 = some (w, yA, yD, yJ, yG0, yG1, yG2, yM1, yM2)) (hX : f_X8_clearRings fu uF0 uF1 uF3 uF4 uF5 uF12 = some (w, yF0, yF1, yF3, yF4, yF5, yF12)) : f_C_25 fu uA uP uC uD uJ ur ut ud ug uG0 uG1 uG2 uM1 uM2 uF0 uF1 uF3 uF4 uF5 uF12 = some (yA, yD, yJ, yG0, yG1, yG2, yM1, yM2, yF0, yF1, yF3, yF4, yF5, yF12) := by
  rw [f_C_25, hL, xb9_s, hX, xb7_s, if_pos rfl]
theorem z_26 {fu : Nat} {a1 : Int32} {uP : sPar} {uD : sDeb} {uF0 : Int32} {uF1 : xF64} {uo : xF64} {yF0 : Int32} {yo : xF64} {k : Int32} {b : Int64} (hL : f_L_net fu a1 uP uD uo = some (k, yo)) (hX : f_X8_net fu a1 uF0 uF1 = some (b, yF0)) (hk : yF0 = k) (ho : k = 0 → yo 0 = b) : f_C_26 fu a1 uP uD uF0 uF1 uo = some (yF0, yo) := by
  have c0 : (0 : Int32).toNatClampNeg = 0 := rfl
  have i01 : xin 0 1 = true := by decide
  subst hk
  rw [f_C_26, hL, xb2_s, hX, xb2_s, f_X8_thrown, xb1_s, if_pos rfl]
  by_cases q : yF0 = 0
  · rw [if_pos q, y_xk i01, c0, if_pos (ho q)]
  · rw [if_neg q]
theorem z_27 {fu : Nat} {a1 a2 : Int32} {uD : sDeb} {ur : xF32} {ug : Int32} {uF0 : Int32} {uF1 : xF64} {uo : xF64} {yF0 : Int32} {yo : xF64} {k : Int32} {b : Int32} (hL : f_L_growsTo a1 a2 uD ur ug uo = some (k, yo)) (hX : f_X8_growsTo fu a1 a2 uF0 uF1 = some (b, yF0)) (hk : yF0 = k) (ho : k = 0 → yo 0 = b.toInt64) : f_C_27 fu a1 a2 uD ur ug uF0 uF1 uo = some (yF0, yo) := by
  have c0 : (0 : Int32).toNatClampNeg = 0 := rfl
  have i01 : xin 0 1 = true := by decide
  subst hk
  rw [f_C_27, hL, xb2_s, hX, xb2_s, f_X8_thrown, xb1_s, if_pos rfl]
  by_cases q : yF0 = 0
  · rw [if_pos q, y_xk i01, c0, if_pos (ho q)]
  · rw [if_neg q]
theorem z_28 {fu : Nat} {a1 : Int32} {uA : Nat → sAcc} {uP : sPar} {uC : sCla} {uD : sDeb} {uJ : sJou} {ur : xF32} {ut : xF32} {ud : Int32} {ug : Int32} {uM1 : Int32} {uM2 : Int32} {uM3 : Int32} {uF0 : Int32} {uF1 : xF64} {uF3 : xF64} {uF4 : xF64} {uF5 : Int32} {uF11 : Int64} {uo : xF64} {yA : Nat → sAcc} {yD : sDeb} {yd : Int32} {yM1 : Int32} {yM2 : Int32} {yM3 : Int32} {yF0 : Int32} {yF1 : xF64} {yF3 : xF64} {yF4 : xF64} {yF5 : Int32} {yF11 : Int64} {yo : xF64} {k : Int32} {b : Int64} (hL : f_L_pass fu a1 uA uP uC uD uJ ur ut ud ug uM1 uM2 uM3 uo = some (k, yA, yD, yd, yM1, yM2, yM3, yo)) (hX : f_X8_pass fu a1 uF0 uF1 uF3 uF4 uF5 uF11 = some (b, yF0, yF1, yF3, yF4, yF5, yF11)) (hk : yF0 = k) (ho : k = 0 → yo 0 = b) : f_C_28 fu a1 uA uP uC uD uJ ur ut ud ug uM1 uM2 uM3 uF0 uF1 uF3 uF4 uF5 uF11 uo = some (yA, yD, yd, yM1, yM2, yM3, yF0, yF1, yF3, yF4, yF5, yF11, yo) := by
  have c0 : (0 : Int32).toNatClampNeg = 0 := rfl
  have i01 : xin 0 1 = true := by decide
  subst hk
  rw [f_C_28, hL, xb8_s, hX, xb7_s, f_X8_thrown, xb1_s, if_pos rfl]
  by_cases q : yF0 = 0
  · rw [if_pos q, y_xk i01, c0, if_pos (ho q)]
  · rw [if_neg q]
theorem z_29 {fu : Nat} {uA : Nat → sAcc} {uP : sPar} {uC : sCla} {uD : sDeb} {uJ : sJou} {ur : xF32} {ut : xF32} {ud : Int32} {ug : Int32} {uM1 : Int32} {uM2 : Int32} {uM3 : Int32} {uF0 : Int32} {uF1 : xF64} {uF3 : xF64} {uF4 : xF64} {uF5 : Int32} {uF11 : Int64} {uo : xF64} {yA : Nat → sAcc} {yg : Int32} {yM1 : Int32} {yM2 : Int32} {yM3 : Int32} {yF0 : Int32} {yF1 : xF64} {yF3 : xF64} {yF4 : xF64} {yF5 : Int32} {yF11 : Int64} {yo : xF64} {k : Int32} {b : Int32} (hL : f_L_goOn uA uP uC uD uJ ur ut ud ug uM1 uM2 uM3 uo = some (k, yA, yg, yM1, yM2, yM3, yo)) (hX : f_X8_goOn fu uF0 uF1 uF3 uF4 uF5 uF11 = some (b, yF0, yF1, yF3, yF4, yF5, yF11)) (hk : yF0 = k) (ho : k = 0 → yo 0 = b.toInt64) : f_C_29 fu uA uP uC uD uJ ur ut ud ug uM1 uM2 uM3 uF0 uF1 uF3 uF4 uF5 uF11 uo = some (yA, yg, yM1, yM2, yM3, yF0, yF1, yF3, yF4, yF5, yF11, yo) := by
  have c0 : (0 : Int32).toNatClampNeg = 0 := rfl
  have i01 : xin 0 1 = true := by decide
  subst hk
  rw [f_C_29, hL, xb7_s, hX, xb7_s, f_X8_thrown, xb1_s, if_pos rfl]
  by_cases q : yF0 = 0
  · rw [if_pos q, y_xk i01, c0, if_pos (ho q)]
  · rw [if_neg q]
theorem z_30 {fu : Nat} {a1 : Int32} {uP : sPar} {uC : sCla} {uD : sDeb} {ud : Int32} {ug : Int32} {uF0 : Int32} {uF1 : xF64} {uo : xF64} {yF0 : Int32} {yo : xF64} {k : Int32} {b : Int64} (hL : f_L_account fu a1 uP uC uD ud ug uo = some (k, yo)) (hX : f_X8_account fu a1 uF0 uF1 = some (b, yF0)) (hk : yF0 = k) (ho : k = 0 → yo 0 = b) : f_C_30 fu a1 uP uC uD ud ug uF0 uF1 uo = some (yF0, yo) := by
  have c0 : (0 : Int32).toNatClampNeg = 0 := rfl
  have i01 : xin 0 1 = true := by decide
  subst hk
  rw [f_C_30, hL, xb2_s, hX, xb2_s, f_X8_thrown, xb1_s, if_pos rfl]
  by_cases q : yF0 = 0
  · rw [if_pos q, y_xk i01, c0, if_pos (ho q)]
  · rw [if_neg q]
theorem z_31 {fu : Nat} {a1 a2 : Int32} {uJ : sJou} {uF0 : Int32} {uF1 : xF64} {uo : xF64} {yF0 : Int32} {yo : xF64} {k : Int32} {b : Int64} (hL : f_L_entry a1 (if a2 = 0 then 0 else 1) uJ uo = some (k, yo)) (hX : f_X8_entry a1 (if a2 = 0 then 0 else 1) uF0 uF1 = some (b, yF0)) (hk : yF0 = k) (ho : k = 0 → yo 0 = b) : f_C_31 fu a1 a2 uJ uF0 uF1 uo = some (yF0, yo) := by
  have c0 : (0 : Int32).toNatClampNeg = 0 := rfl
  have i01 : xin 0 1 = true := by decide
  subst hk
  rw [f_C_31]
  by_cases q2 : a2 = 0
  · rw [if_pos q2] at hL hX
    rw [if_pos q2, hL, xb2_s, if_pos q2, hX, xb2_s, f_X8_thrown, xb1_s, if_pos rfl]
    by_cases q : yF0 = 0
    · rw [if_pos q, y_xk i01, c0, if_pos (ho q)]
    · rw [if_neg q]
  · rw [if_neg q2] at hL hX
    rw [if_neg q2, hL, xb2_s, if_neg q2, hX, xb2_s, f_X8_thrown, xb1_s, if_pos rfl]
    by_cases q : yF0 = 0
    · rw [if_pos q, y_xk i01, c0, if_pos (ho q)]
    · rw [if_neg q]
theorem z_32 {fu : Nat} {a1 : Int32} {uP : sPar} {uC : sCla} {uF0 : Int32} {uF1 : xF64} {uv : Nat → UInt64} {yF0 : Int32} {yv : Nat → UInt64} {k : Int32} {b : UInt64} (hL : f_L_quota fu a1 uP uC uv = some (k, yv)) (hX : f_X8_quota fu a1 uF0 uF1 = some (b, yF0)) (hk : yF0 = k) (ho : k = 0 → yv 0 = b) : f_C_32 fu a1 uP uC uF0 uF1 uv = some (yF0, yv) := by
  have c0 : (0 : Int32).toNatClampNeg = 0 := rfl
  have i01 : xin 0 1 = true := by decide
  subst hk
  rw [f_C_32, hL, xb2_s, hX, xb2_s, f_X8_thrown, xb1_s, if_pos rfl]
  by_cases q : yF0 = 0
  · rw [if_pos q, y_xk i01, c0, ho q]
    by_cases z : Op.cmpValue (FP.dcmp b b) CmpOp.l = 0
    · simp only [z, if_true, y_xk i01]
    · simp only [z, if_false, y_xk i01]
  · rw [if_neg q]
theorem z_33 {fu : Nat} {a1 : Int32} {uT0 : Int32} {uT1 : xF32} {uF0 : Int32} {uF8 : xF32} {uF9 : Int32} {uo : xF64} {yT0 : Int32} {yT1 : xF32} {yF0 : Int32} {yF8 : xF32} {yF9 : Int32} {yo : xF64} {k : Int32} {b : Int32} (hL : f_L_append ((a1.toUInt32 % 65536).toInt32) uT0 uT1 uo = some (k, yT0, yT1, yo)) (hX : f_X8_append ((a1.toUInt32 % 65536).toInt32) uF0 uF8 uF9 = some (b, yF0, yF8, yF9)) (hk : yF0 = k) (ho : k = 0 → yo 0 = b.toInt64) : f_C_33 fu a1 uT0 uT1 uF0 uF8 uF9 uo = some (yT0, yT1, yF0, yF8, yF9, yo) := by
  have c0 : (0 : Int32).toNatClampNeg = 0 := rfl
  have i01 : xin 0 1 = true := by decide
  subst hk
  rw [f_C_33, hL, xb4_s, hX, xb4_s, f_X8_thrown, xb1_s, if_pos rfl]
  by_cases q : yF0 = 0
  · rw [if_pos q, y_xk i01, c0, if_pos (ho q)]
  · rw [if_neg q]
theorem z_34 {fu : Nat} {uA : Nat → sAcc} {uP : sPar} {uC : sCla} {uD : sDeb} {uJ : sJou} {ur : xF32} {ut : xF32} {ud : Int32} {ug : Int32} {uT0 : Int32} {uT1 : xF32} {uT2 : Int32} {uT3 : Int32} {uT4 : Int32} {uT5 : xF32} {uT6 : xF32} {uT7 : xF32} {uT8 : xF32} {uM1 : Int32} {uM2 : Int32} {uM3 : Int32} {uM4 : Int32} {uF0 : Int32} {uF1 : xF64} {uF3 : xF64} {uF4 : xF64} {uF5 : Int32} {uF7 : Int32} {uF8 : xF32} {uF9 : Int32} {uF10 : Int32} {uF11 : Int64} {uF13 : Int32} {uF14 : Int32} {uF15 : Int32} {uF16 : xF32} {uF17 : xF32} {uF18 : Int32} {uo : xF64} {yA : Nat → sAcc} {yP : sPar} {yC : sCla} {yD : sDeb} {yJ : sJou} {yr : xF32} {yt : xF32} {yd : Int32} {yg : Int32} {yT0 : Int32} {yT2 : Int32} {yT3 : Int32} {yT4 : Int32} {yT5 : xF32} {yT6 : xF32} {yT7 : xF32} {yT8 : xF32} {yM1 : Int32} {yM2 : Int32} {yM3 : Int32} {yM4 : Int32} {yF0 : Int32} {yF1 : xF64} {yF3 : xF64} {yF4 : xF64} {yF5 : Int32} {yF7 : Int32} {yF9 : Int32} {yF10 : Int32} {yF11 : Int64} {yF13 : Int32} {yF14 : Int32} {yF15 : Int32} {yF16 : xF32} {yF17 : xF32} {yF18 : Int32} {yo : xF64} {k : Int32} {b : Int32} (hL : f_L_read fu uA uP uC uD uJ ur ut ud ug uT0 uT1 uT2 uT3 uT4 uT5 uT6 uT7 uT8 uM1 uM2 uM3 uM4 uo = some (k, yA, yP, yC, yD, yJ, yr, yt, yd, yg, yT0, yT2, yT3, yT4, yT5, yT6, yT7, yT8, yM1, yM2, yM3, yM4, yo)) (hX : f_X8_read fu uF0 uF1 uF3 uF4 uF5 uF7 uF8 uF9 uF10 uF11 uF13 uF14 uF15 uF16 uF17 uF18 = some (b, yF0, yF1, yF3, yF4, yF5, yF7, yF9, yF10, yF11, yF13, yF14, yF15, yF16, yF17, yF18)) (hk : yF0 = k) (ho : k = 0 → yo 0 = b.toInt64) : f_C_34 fu uA uP uC uD uJ ur ut ud ug uT0 uT1 uT2 uT3 uT4 uT5 uT6 uT7 uT8 uM1 uM2 uM3 uM4 uF0 uF1 uF3 uF4 uF5 uF7 uF8 uF9 uF10 uF11 uF13 uF14 uF15 uF16 uF17 uF18 uo = some (yA, yP, yC, yD, yJ, yr, yt, yd, yg, yT0, yT2, yT3, yT4, yT5, yT6, yT7, yT8, yM1, yM2, yM3, yM4, yF0, yF1, yF3, yF4, yF5, yF7, yF9, yF10, yF11, yF13, yF14, yF15, yF16, yF17, yF18, yo) := by
  have c0 : (0 : Int32).toNatClampNeg = 0 := rfl
  have i01 : xin 0 1 = true := by decide
  subst hk
  rw [f_C_34, hL, xb23_s, hX, xb16_s, f_X8_thrown, xb1_s, if_pos rfl]
  by_cases q : yF0 = 0
  · rw [if_pos q, y_xk i01, c0, if_pos (ho q)]
  · rw [if_neg q]
theorem z_35 {fu : Nat} {uM4 : Int32} {uF0 : Int32} {uF10 : Int32} {uo : xF64} {yF0 : Int32} {yo : xF64} {k : Int32} {b : Int32} (hL : f_L_errorPosition uM4 uo = some (k, yo)) (hX : f_X8_errorPosition uF0 uF10 = some (b, yF0)) (hk : yF0 = k) (ho : k = 0 → yo 0 = b.toInt64) : f_C_35 fu uM4 uF0 uF10 uo = some (yF0, yo) := by
  have c0 : (0 : Int32).toNatClampNeg = 0 := rfl
  have i01 : xin 0 1 = true := by decide
  subst hk
  rw [f_C_35, hL, xb2_s, hX, xb2_s, f_X8_thrown, xb1_s, if_pos rfl]
  by_cases q : yF0 = 0
  · rw [if_pos q, y_xk i01, c0, if_pos (ho q)]
  · rw [if_neg q]
theorem z_36 {fu : Nat} {uA : Nat → sAcc} {uP : sPar} {uC : sCla} {uD : sDeb} {uJ : sJou} {ur : xF32} {ut : xF32} {ud : Int32} {ug : Int32} {uM1 : Int32} {uM2 : Int32} {uF0 : Int32} {uF1 : xF64} {uF4 : xF64} {uF5 : Int32} {uo : xF64} {yP : sPar} {yC : sCla} {yD : sDeb} {yJ : sJou} {yr : xF32} {yt : xF32} {yd : Int32} {yg : Int32} {yM1 : Int32} {yM2 : Int32} {yF0 : Int32} {yF1 : xF64} {yF5 : Int32} {yo : xF64} {k : Int32} {b : Int32} (hL : f_L_undo uA uP uC uD uJ ur ut ud ug uM1 uM2 uo = some (k, yP, yC, yD, yJ, yr, yt, yd, yg, yM1, yM2, yo)) (hX : f_X8_undo fu uF0 uF1 uF4 uF5 = some (b, yF0, yF1, yF5)) (hk : yF0 = k) (ho : k = 0 → yo 0 = b.toInt64) : f_C_36 fu uA uP uC uD uJ ur ut ud ug uM1 uM2 uF0 uF1 uF4 uF5 uo = some (yP, yC, yD, yJ, yr, yt, yd, yg, yM1, yM2, yF0, yF1, yF5, yo) := by
  have c0 : (0 : Int32).toNatClampNeg = 0 := rfl
  have i01 : xin 0 1 = true := by decide
  subst hk
  rw [f_C_36, hL, xb12_s, hX, xb4_s, f_X8_thrown, xb1_s, if_pos rfl]
  by_cases q : yF0 = 0
  · rw [if_pos q, y_xk i01, c0, if_pos (ho q)]
  · rw [if_neg q]
theorem z_37 {fu : Nat} {uA : Nat → sAcc} {uP : sPar} {uC : sCla} {uD : sDeb} {uJ : sJou} {ur : xF32} {ut : xF32} {ud : Int32} {ug : Int32} {uM0 : Int32} {uF0 : Int32} {uF1 : xF64} {uF2 : xF64} {uF6 : Int32} {yA : Nat → sAcc} {yM0 : Int32} {yF0 : Int32} {yF2 : xF64} {yF6 : Int32} {w : Int32} (hL : f_X7_save uA uP uC uD uJ ur ut ud ug uM0 = some (w, yA, yM0)) (hX : f_X8_save fu uF0 uF1 uF2 uF6 = some (w, yF0, yF2, yF6)) : f_C_37 fu uA uP uC uD uJ ur ut ud ug uM0 uF0 uF1 uF2 uF6 = some (yA, yM0, yF0, yF2, yF6) := by
  rw [f_C_37, hL, xb3_s, hX, xb4_s, if_pos rfl]
theorem z_38 {fu : Nat} {uA : Nat → sAcc} {uP : sPar} {uC : sCla} {uD : sDeb} {uJ : sJou} {ur : xF32} {ut : xF32} {ud : Int32} {ug : Int32} {uM0 : Int32} {uM2 : Int32} {uF0 : Int32} {uF1 : xF64} {uF2 : xF64} {uF5 : Int32} {uF6 : Int32} {uo : xF64} {yP : sPar} {yC : sCla} {yD : sDeb} {yJ : sJou} {yr : xF32} {yt : xF32} {yd : Int32} {yg : Int32} {yM2 : Int32} {yF0 : Int32} {yF1 : xF64} {yF5 : Int32} {yo : xF64} {k : Int32} {b : Int32} (hL : f_L_restore uA uP uC uD uJ ur ut ud ug uM0 uM2 uo = some (k, yP, yC, yD, yJ, yr, yt, yd, yg, yM2, yo)) (hX : f_X8_restore fu uF0 uF1 uF2 uF5 uF6 = some (b, yF0, yF1, yF5)) (hk : yF0 = k) (ho : k = 0 → yo 0 = b.toInt64) : f_C_38 fu uA uP uC uD uJ ur ut ud ug uM0 uM2 uF0 uF1 uF2 uF5 uF6 uo = some (yP, yC, yD, yJ, yr, yt, yd, yg, yM2, yF0, yF1, yF5, yo) := by
  have c0 : (0 : Int32).toNatClampNeg = 0 := rfl
  have i01 : xin 0 1 = true := by decide
  subst hk
  rw [f_C_38, hL, xb11_s, hX, xb4_s, f_X8_thrown, xb1_s, if_pos rfl]
  by_cases q : yF0 = 0
  · rw [if_pos q, y_xk i01, c0, if_pos (ho q)]
  · rw [if_neg q]
