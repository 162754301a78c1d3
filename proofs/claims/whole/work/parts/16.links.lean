theorem xin_ws {L : List Cond} (h : L.all (fun w => goodWord w && decide (w ∈ tables_1)) = true) : ∀ w ∈ L, w ∈ gW := by
  intro w hw
  have h1 := List.all_eq_true.mp h w hw
  simp only [Bool.and_eq_true, decide_eq_true_eq] at h1
  exact gW_of (List.mem_append_right _ h1.2) h1.1
theorem z9 : (0 : Nat) < 9 := by decide
theorem pn_X0 : plainName RX0 = true := by decide +kernel
theorem inX0 : ∀ w ∈ wsX00, w ∈ gW := xin_ws (by decide +kernel)
theorem pn_X1 : plainName RX1 = true := by decide +kernel
theorem inX1 : ∀ w ∈ wsX10, w ∈ gW := xin_ws (by decide +kernel)
theorem pn_X2 : plainName RX2 = true := by decide +kernel
theorem inX2 : ∀ w ∈ wsX20, w ∈ gW := xin_ws (by decide +kernel)
theorem pn_X3 : plainName RX3 = true := by decide +kernel
theorem inX3 : ∀ w ∈ wsX30, w ∈ gW := xin_ws (by decide +kernel)
theorem pn_X4 : plainName RX4 = true := by decide +kernel
theorem inX4 : ∀ w ∈ wsX40, w ∈ gW := xin_ws (by decide +kernel)
theorem pn_X5 : plainName RX5 = true := by decide +kernel
theorem inX5 : ∀ w ∈ wsX50, w ∈ gW := xin_ws (by decide +kernel)
theorem pn_X6 : plainName RX6 = true := by decide +kernel
theorem inX6 : ∀ w ∈ wsX60, w ∈ gW := xin_ws (by decide +kernel)
theorem pn_X7 : plainName RX7 = true := by decide +kernel
theorem inX7 : ∀ w ∈ wsX70, w ∈ gW := xin_ws (by decide +kernel)
theorem pn_X8 : plainName RX8 = true := by decide +kernel
theorem inX8 : ∀ w ∈ wsX80, w ∈ gW := xin_ws (by decide +kernel)
theorem pn_L : plainName RL = true := by decide +kernel
theorem w_fieldLink_RX0_12_ArbitrationFees_Accounts_parties_LArbitrationFees_Parties_ : (Cond.fieldLink RX0 12 "ArbitrationFees$Accounts" "parties" "LArbitrationFees$Parties;") ∈ gW := gW_of (tb_1 (List.mem_of_getElem? (i := 169) (by decide +kernel))) (by decide +kernel)
theorem fX0_12 : xFl RX0 12 0 0 (.object "ArbitrationFees$Parties") true := ⟨RX0, TX0, 8, tyX0, rfl, inX0, by decide, w_fieldLink_RX0_12_ArbitrationFees_Accounts_parties_LArbitrationFees_Parties_, rfl, tyX0_ok, nmX0, rfl, by decide +kernel⟩
theorem w_fieldLink_RX0_64_ArbitrationFees_Parties_count_I_ : (Cond.fieldLink RX0 64 "ArbitrationFees$Parties" "count" "I") ∈ gW := gW_of (tb_1 (List.mem_of_getElem? (i := 44) (by decide +kernel))) (by decide +kernel)
theorem fX0_64 : xFl RX0 64 4 0 .int false := ⟨RX4, TX4, 7, tyX4, rfl, inX4, by decide, w_fieldLink_RX0_64_ArbitrationFees_Parties_count_I_, rfl, tyX4_ok, nmX4, rfl, by decide +kernel⟩
theorem w_fieldLink_RX0_21_ArbitrationFees_Accounts_claims_LArbitrationFees_Claims_ : (Cond.fieldLink RX0 21 "ArbitrationFees$Accounts" "claims" "LArbitrationFees$Claims;") ∈ gW := gW_of (tb_1 (List.mem_of_getElem? (i := 171) (by decide +kernel))) (by decide +kernel)
theorem fX0_21 : xFl RX0 21 0 1 (.object "ArbitrationFees$Claims") true := ⟨RX0, TX0, 8, tyX0, rfl, inX0, by decide, w_fieldLink_RX0_21_ArbitrationFees_Accounts_claims_LArbitrationFees_Claims_, rfl, tyX0_ok, nmX0, rfl, by decide +kernel⟩
theorem w_fieldLink_RX0_67_ArbitrationFees_Claims_count_I_ : (Cond.fieldLink RX0 67 "ArbitrationFees$Claims" "count" "I") ∈ gW := gW_of (tb_1 (List.mem_of_getElem? (i := 81) (by decide +kernel))) (by decide +kernel)
theorem fX0_67 : xFl RX0 67 1 0 .int false := ⟨RX1, TX1, 7, tyX1, rfl, inX1, by decide, w_fieldLink_RX0_67_ArbitrationFees_Claims_count_I_, rfl, tyX1_ok, nmX1, rfl, by decide +kernel⟩
theorem w_fieldLink_RX0_28_ArbitrationFees_Accounts_debts_LArbitrationFees_Debts_ : (Cond.fieldLink RX0 28 "ArbitrationFees$Accounts" "debts" "LArbitrationFees$Debts;") ∈ gW := gW_of (tb_1 (List.mem_of_getElem? (i := 173) (by decide +kernel))) (by decide +kernel)
theorem fX0_28 : xFl RX0 28 0 2 (.object "ArbitrationFees$Debts") true := ⟨RX0, TX0, 8, tyX0, rfl, inX0, by decide, w_fieldLink_RX0_28_ArbitrationFees_Accounts_debts_LArbitrationFees_Debts_, rfl, tyX0_ok, nmX0, rfl, by decide +kernel⟩
theorem w_fieldLink_RX0_68_ArbitrationFees_Debts_count_I_ : (Cond.fieldLink RX0 68 "ArbitrationFees$Debts" "count" "I") ∈ gW := gW_of (tb_1 (List.mem_of_getElem? (i := 117) (by decide +kernel))) (by decide +kernel)
theorem fX0_68 : xFl RX0 68 2 0 .int false := ⟨RX2, TX2, 6, tyX2, rfl, inX2, by decide, w_fieldLink_RX0_68_ArbitrationFees_Debts_count_I_, rfl, tyX2_ok, nmX2, rfl, by decide +kernel⟩
theorem w_fieldLink_RX0_35_ArbitrationFees_Accounts_journal_LArbitrationFees_Journal_ : (Cond.fieldLink RX0 35 "ArbitrationFees$Accounts" "journal" "LArbitrationFees$Journal;") ∈ gW := gW_of (tb_1 (List.mem_of_getElem? (i := 175) (by decide +kernel))) (by decide +kernel)
theorem fX0_35 : xFl RX0 35 0 3 (.object "ArbitrationFees$Journal") true := ⟨RX0, TX0, 8, tyX0, rfl, inX0, by decide, w_fieldLink_RX0_35_ArbitrationFees_Accounts_journal_LArbitrationFees_Journal_, rfl, tyX0_ok, nmX0, rfl, by decide +kernel⟩
theorem w_fieldLink_RX0_69_ArbitrationFees_Journal_count_I_ : (Cond.fieldLink RX0 69 "ArbitrationFees$Journal" "count" "I") ∈ gW := gW_of (tb_1 (List.mem_of_getElem? (i := 146) (by decide +kernel))) (by decide +kernel)
theorem fX0_69 : xFl RX0 69 3 0 .int false := ⟨RX3, TX3, 3, tyX3, rfl, inX3, by decide, w_fieldLink_RX0_69_ArbitrationFees_Journal_count_I_, rfl, tyX3_ok, nmX3, rfl, by decide +kernel⟩
theorem w_fieldLink_RX0_39_ArbitrationFees_Accounts_FIRST_RATES_I_ : (Cond.fieldLink RX0 39 "ArbitrationFees$Accounts" "FIRST_RATES" "[I") ∈ gW := gW_of (tb_1 (List.mem_of_getElem? (i := 158) (by decide +kernel))) (by decide +kernel)
theorem w_fieldLink_RX0_48_ArbitrationFees_Accounts_rates_I_ : (Cond.fieldLink RX0 48 "ArbitrationFees$Accounts" "rates" "[I") ∈ gW := gW_of (tb_1 (List.mem_of_getElem? (i := 177) (by decide +kernel))) (by decide +kernel)
theorem fX0_48 : xFl RX0 48 0 4 (.array .int) true := ⟨RX0, TX0, 8, tyX0, rfl, inX0, by decide, w_fieldLink_RX0_48_ArbitrationFees_Accounts_rates_I_, rfl, tyX0_ok, nmX0, rfl, by decide +kernel⟩
theorem ac_X0_70 : xAcp RX0 70 := ⟨gW_of (tb_2 (List.mem_of_getElem? (i := 63) (by decide +kernel))) (by decide +kernel), gW_of (tb_2 (List.mem_of_getElem? (i := 65) (by decide +kernel))) (by decide +kernel), gW_of (tb_2 (List.mem_of_getElem? (i := 64) (by decide +kernel))) (by decide +kernel), gW_of (tb_1 (List.mem_of_getElem? (i := 10) (by decide +kernel))) (by decide +kernel)⟩
theorem w_fieldLink_RX0_51_ArbitrationFees_Accounts_FIRST_TIERS_I_ : (Cond.fieldLink RX0 51 "ArbitrationFees$Accounts" "FIRST_TIERS" "[I") ∈ gW := gW_of (tb_1 (List.mem_of_getElem? (i := 167) (by decide +kernel))) (by decide +kernel)
theorem w_fieldLink_RX0_54_ArbitrationFees_Accounts_tiers_I_ : (Cond.fieldLink RX0 54 "ArbitrationFees$Accounts" "tiers" "[I") ∈ gW := gW_of (tb_1 (List.mem_of_getElem? (i := 179) (by decide +kernel))) (by decide +kernel)
theorem fX0_54 : xFl RX0 54 0 5 (.array .int) true := ⟨RX0, TX0, 8, tyX0, rfl, inX0, by decide, w_fieldLink_RX0_54_ArbitrationFees_Accounts_tiers_I_, rfl, tyX0_ok, nmX0, rfl, by decide +kernel⟩
theorem w_fieldLink_RX0_57_ArbitrationFees_Accounts_day_I_ : (Cond.fieldLink RX0 57 "ArbitrationFees$Accounts" "day" "I") ∈ gW := gW_of (tb_1 (List.mem_of_getElem? (i := 181) (by decide +kernel))) (by decide +kernel)
theorem fX0_57 : xFl RX0 57 0 6 .int false := ⟨RX0, TX0, 8, tyX0, rfl, inX0, by decide, w_fieldLink_RX0_57_ArbitrationFees_Accounts_day_I_, rfl, tyX0_ok, nmX0, rfl, by decide +kernel⟩
theorem w_fieldLink_RX0_61_ArbitrationFees_Accounts_stage_I_ : (Cond.fieldLink RX0 61 "ArbitrationFees$Accounts" "stage" "I") ∈ gW := gW_of (tb_1 (List.mem_of_getElem? (i := 182) (by decide +kernel))) (by decide +kernel)
theorem fX0_61 : xFl RX0 61 0 7 .int false := ⟨RX0, TX0, 8, tyX0, rfl, inX0, by decide, w_fieldLink_RX0_61_ArbitrationFees_Accounts_stage_I_, rfl, tyX0_ok, nmX0, rfl, by decide +kernel⟩
theorem w_fieldLink_RX4_9_ArbitrationFees_Parties_count_I_ : (Cond.fieldLink RX4 9 "ArbitrationFees$Parties" "count" "I") ∈ gW := gW_of (tb_1 (List.mem_of_getElem? (i := 43) (by decide +kernel))) (by decide +kernel)
theorem fX4_9 : xFl RX4 9 4 0 .int false := ⟨RX4, TX4, 7, tyX4, rfl, inX4, by decide, w_fieldLink_RX4_9_ArbitrationFees_Parties_count_I_, rfl, tyX4_ok, nmX4, rfl, by decide +kernel⟩
theorem wz_X4 : (Cond.initialized RX4) ∈ gW := gW_of (tb_1 (List.mem_of_getElem? (i := 3) (by decide +kernel))) (by decide +kernel)
theorem wc_X4_has : (Cond.code yX4_has cX4_has 2 (some .boolean)) ∈ gW := gW_of (tb_3 (List.mem_of_getElem? (i := 189) (by decide +kernel))) (by decide +kernel)
theorem pd_X4_has : yX4_has.cls ≠ "java/lang/invoke/MethodHandle" ∧ yX4_has.cls ≠ "java/lang/invoke/VarHandle" ∧ (parseMethodDescriptor yX4_has.desc).map (fun d => d.parameters.length) = some 1 := ⟨by decide, by decide, by decide +kernel⟩
theorem wm_X4_41 : (Cond.methodLink RX4 41 yX4_has) ∈ gW := gW_of (tb_3 (List.mem_of_getElem? (i := 232) (by decide +kernel))) (by decide +kernel)
theorem wi_X4_has : (Cond.instanceMethod yX4_has) ∈ gW := gW_of (tb_3 (List.mem_of_getElem? (i := 187) (by decide +kernel))) (by decide +kernel)
theorem ws_X4_has : (Cond.selects yX4_has.cls yX4_has yX4_has) ∈ gW := gW_of (tb_3 (List.mem_of_getElem? (i := 188) (by decide +kernel))) (by decide +kernel)
theorem kX4_41 : xVk RX4 41 yX4_has cX4_has 2 (some .boolean) 1 4 := ⟨wm_X4_41, wi_X4_has, ws_X4_has, wz_X4, wc_X4_has, pd_X4_has, TX4, 7, rfl⟩
theorem w_constant_RX7_338_100000000 : (Cond.constant RX7 338 100000000) ∈ gW := gW_of (tb_3 (List.mem_of_getElem? (i := 236) (by decide +kernel))) (by decide +kernel)
theorem wz_X7 : (Cond.initialized RX7) ∈ gW := gW_of (tb_1 (List.mem_of_getElem? (i := 1) (by decide +kernel))) (by decide +kernel)
theorem wc_X7_isWithin : (Cond.code yX7_isWithin cX7_isWithin 3 (some .boolean)) ∈ gW := gW_of (tb_3 (List.mem_of_getElem? (i := 3) (by decide +kernel))) (by decide +kernel)
theorem pd_X7_isWithin : yX7_isWithin.cls ≠ "java/lang/invoke/MethodHandle" ∧ yX7_isWithin.cls ≠ "java/lang/invoke/VarHandle" ∧ (parseMethodDescriptor yX7_isWithin.desc).map (fun d => d.parameters.length) = some 3 := ⟨by decide, by decide, by decide +kernel⟩
theorem wm_X7_70 : (Cond.methodLink RX7 70 yX7_isWithin) ∈ gW := gW_of (tb_3 (List.mem_of_getElem? (i := 1) (by decide +kernel))) (by decide +kernel)
theorem wt_X7_isWithin : (Cond.static yX7_isWithin) ∈ gW := gW_of (tb_3 (List.mem_of_getElem? (i := 2) (by decide +kernel))) (by decide +kernel)
theorem kX7_70 : xSk RX7 70 yX7_isWithin cX7_isWithin 3 (some .boolean) 3 := ⟨wm_X7_70, wt_X7_isWithin, wz_X7, wc_X7_isWithin, pd_X7_isWithin⟩
theorem wc_X4_hasBoth : (Cond.code yX4_hasBoth cX4_hasBoth 3 (some .boolean)) ∈ gW := gW_of (tb_3 (List.mem_of_getElem? (i := 231) (by decide +kernel))) (by decide +kernel)
theorem pd_X4_hasBoth : yX4_hasBoth.cls ≠ "java/lang/invoke/MethodHandle" ∧ yX4_hasBoth.cls ≠ "java/lang/invoke/VarHandle" ∧ (parseMethodDescriptor yX4_hasBoth.desc).map (fun d => d.parameters.length) = some 2 := ⟨by decide, by decide, by decide +kernel⟩
theorem wm_X0_89 : (Cond.methodLink RX0 89 yX4_hasBoth) ∈ gW := gW_of (tb_3 (List.mem_of_getElem? (i := 228) (by decide +kernel))) (by decide +kernel)
theorem wi_X4_hasBoth : (Cond.instanceMethod yX4_hasBoth) ∈ gW := gW_of (tb_3 (List.mem_of_getElem? (i := 229) (by decide +kernel))) (by decide +kernel)
theorem ws_X4_hasBoth : (Cond.selects yX4_hasBoth.cls yX4_hasBoth yX4_hasBoth) ∈ gW := gW_of (tb_3 (List.mem_of_getElem? (i := 230) (by decide +kernel))) (by decide +kernel)
theorem kX0_89 : xVk RX0 89 yX4_hasBoth cX4_hasBoth 3 (some .boolean) 2 4 := ⟨wm_X0_89, wi_X4_hasBoth, ws_X4_hasBoth, wz_X4, wc_X4_hasBoth, pd_X4_hasBoth, TX4, 7, rfl⟩
theorem w_fieldLink_RX0_93_ArbitrationFees_Parties_sides_I_ : (Cond.fieldLink RX0 93 "ArbitrationFees$Parties" "sides" "[I") ∈ gW := gW_of (tb_1 (List.mem_of_getElem? (i := 47) (by decide +kernel))) (by decide +kernel)
theorem fX0_93 : xFl RX0 93 4 1 (.array .int) true := ⟨RX4, TX4, 7, tyX4, rfl, inX4, by decide, w_fieldLink_RX0_93_ArbitrationFees_Parties_sides_I_, rfl, tyX4_ok, nmX4, rfl, by decide +kernel⟩
theorem wc_X7_isAmount : (Cond.code yX7_isAmount cX7_isAmount 1 (some .boolean)) ∈ gW := gW_of (tb_3 (List.mem_of_getElem? (i := 235) (by decide +kernel))) (by decide +kernel)
theorem pd_X7_isAmount : yX7_isAmount.cls ≠ "java/lang/invoke/MethodHandle" ∧ yX7_isAmount.cls ≠ "java/lang/invoke/VarHandle" ∧ (parseMethodDescriptor yX7_isAmount.desc).map (fun d => d.parameters.length) = some 1 := ⟨by decide, by decide, by decide +kernel⟩
theorem wt_X7_isAmount : (Cond.static yX7_isAmount) ∈ gW := gW_of (tb_3 (List.mem_of_getElem? (i := 234) (by decide +kernel))) (by decide +kernel)
theorem kX0_96 : xNk RX0 96 yX7_isAmount cX7_isAmount 1 (some .boolean) 1 := ⟨by decide, wt_X7_isAmount, wz_X7, wc_X7_isAmount, pd_X7_isAmount⟩
theorem w_fieldLink_RX1_9_ArbitrationFees_Claims_count_I_ : (Cond.fieldLink RX1 9 "ArbitrationFees$Claims" "count" "I") ∈ gW := gW_of (tb_1 (List.mem_of_getElem? (i := 80) (by decide +kernel))) (by decide +kernel)
theorem fX1_9 : xFl RX1 9 1 0 .int false := ⟨RX1, TX1, 7, tyX1, rfl, inX1, by decide, w_fieldLink_RX1_9_ArbitrationFees_Claims_count_I_, rfl, tyX1_ok, nmX1, rfl, by decide +kernel⟩
theorem w_fieldLink_RX1_22_ArbitrationFees_Claims_amounts_I_ : (Cond.fieldLink RX1 22 "ArbitrationFees$Claims" "amounts" "[I") ∈ gW := gW_of (tb_1 (List.mem_of_getElem? (i := 87) (by decide +kernel))) (by decide +kernel)
theorem fX1_22 : xFl RX1 22 1 3 (.array .int) true := ⟨RX1, TX1, 7, tyX1, rfl, inX1, by decide, w_fieldLink_RX1_22_ArbitrationFees_Claims_amounts_I_, rfl, tyX1_ok, nmX1, rfl, by decide +kernel⟩
theorem w_fieldLink_RX1_25_ArbitrationFees_Claims_awarded_I_ : (Cond.fieldLink RX1 25 "ArbitrationFees$Claims" "awarded" "[I") ∈ gW := gW_of (tb_1 (List.mem_of_getElem? (i := 89) (by decide +kernel))) (by decide +kernel)
theorem fX1_25 : xFl RX1 25 1 4 (.array .int) true := ⟨RX1, TX1, 7, tyX1, rfl, inX1, by decide, w_fieldLink_RX1_25_ArbitrationFees_Claims_awarded_I_, rfl, tyX1_ok, nmX1, rfl, by decide +kernel⟩
theorem w_fieldLink_RX1_28_ArbitrationFees_Claims_dismissed_I_ : (Cond.fieldLink RX1 28 "ArbitrationFees$Claims" "dismissed" "[I") ∈ gW := gW_of (tb_1 (List.mem_of_getElem? (i := 91) (by decide +kernel))) (by decide +kernel)
theorem fX1_28 : xFl RX1 28 1 5 (.array .int) true := ⟨RX1, TX1, 7, tyX1, rfl, inX1, by decide, w_fieldLink_RX1_28_ArbitrationFees_Claims_dismissed_I_, rfl, tyX1_ok, nmX1, rfl, by decide +kernel⟩
theorem w_fieldLink_RX1_31_ArbitrationFees_Claims_withdrawn_I_ : (Cond.fieldLink RX1 31 "ArbitrationFees$Claims" "withdrawn" "[I") ∈ gW := gW_of (tb_1 (List.mem_of_getElem? (i := 93) (by decide +kernel))) (by decide +kernel)
theorem fX1_31 : xFl RX1 31 1 6 (.array .int) true := ⟨RX1, TX1, 7, tyX1, rfl, inX1, by decide, w_fieldLink_RX1_31_ArbitrationFees_Claims_withdrawn_I_, rfl, tyX1_ok, nmX1, rfl, by decide +kernel⟩
theorem wz_X1 : (Cond.initialized RX1) ∈ gW := gW_of (tb_1 (List.mem_of_getElem? (i := 4) (by decide +kernel))) (by decide +kernel)
theorem wc_X1_has : (Cond.code yX1_has cX1_has 2 (some .boolean)) ∈ gW := gW_of (tb_4 (List.mem_of_getElem? (i := 20) (by decide +kernel))) (by decide +kernel)
theorem pd_X1_has : yX1_has.cls ≠ "java/lang/invoke/MethodHandle" ∧ yX1_has.cls ≠ "java/lang/invoke/VarHandle" ∧ (parseMethodDescriptor yX1_has.desc).map (fun d => d.parameters.length) = some 1 := ⟨by decide, by decide, by decide +kernel⟩
theorem wm_X0_104 : (Cond.methodLink RX0 104 yX1_has) ∈ gW := gW_of (tb_4 (List.mem_of_getElem? (i := 17) (by decide +kernel))) (by decide +kernel)
theorem wi_X1_has : (Cond.instanceMethod yX1_has) ∈ gW := gW_of (tb_4 (List.mem_of_getElem? (i := 18) (by decide +kernel))) (by decide +kernel)
theorem ws_X1_has : (Cond.selects yX1_has.cls yX1_has yX1_has) ∈ gW := gW_of (tb_4 (List.mem_of_getElem? (i := 19) (by decide +kernel))) (by decide +kernel)
theorem kX0_104 : xVk RX0 104 yX1_has cX1_has 2 (some .boolean) 1 1 := ⟨wm_X0_104, wi_X1_has, ws_X1_has, wz_X1, wc_X1_has, pd_X1_has, TX1, 7, rfl⟩
theorem wc_X1_leftOf : (Cond.code yX1_leftOf cX1_leftOf 2 (some .int)) ∈ gW := gW_of (tb_4 (List.mem_of_getElem? (i := 24) (by decide +kernel))) (by decide +kernel)
theorem pd_X1_leftOf : yX1_leftOf.cls ≠ "java/lang/invoke/MethodHandle" ∧ yX1_leftOf.cls ≠ "java/lang/invoke/VarHandle" ∧ (parseMethodDescriptor yX1_leftOf.desc).map (fun d => d.parameters.length) = some 1 := ⟨by decide, by decide, by decide +kernel⟩
theorem wm_X0_107 : (Cond.methodLink RX0 107 yX1_leftOf) ∈ gW := gW_of (tb_4 (List.mem_of_getElem? (i := 21) (by decide +kernel))) (by decide +kernel)
theorem wi_X1_leftOf : (Cond.instanceMethod yX1_leftOf) ∈ gW := gW_of (tb_4 (List.mem_of_getElem? (i := 22) (by decide +kernel))) (by decide +kernel)
theorem ws_X1_leftOf : (Cond.selects yX1_leftOf.cls yX1_leftOf yX1_leftOf) ∈ gW := gW_of (tb_4 (List.mem_of_getElem? (i := 23) (by decide +kernel))) (by decide +kernel)
theorem kX0_107 : xVk RX0 107 yX1_leftOf cX1_leftOf 2 (some .int) 1 1 := ⟨wm_X0_107, wi_X1_leftOf, ws_X1_leftOf, wz_X1, wc_X1_leftOf, pd_X1_leftOf, TX1, 7, rfl⟩
theorem wz_X0 : (Cond.initialized RX0) ∈ gW := gW_of (tb_1 (List.mem_of_getElem? (i := 2) (by decide +kernel))) (by decide +kernel)
theorem wc_X0_faultOfPart : (Cond.code yX0_faultOfPart cX0_faultOfPart 4 (some .int)) ∈ gW := gW_of (tb_4 (List.mem_of_getElem? (i := 16) (by decide +kernel))) (by decide +kernel)
theorem pd_X0_faultOfPart : yX0_faultOfPart.cls ≠ "java/lang/invoke/MethodHandle" ∧ yX0_faultOfPart.cls ≠ "java/lang/invoke/VarHandle" ∧ (parseMethodDescriptor yX0_faultOfPart.desc).map (fun d => d.parameters.length) = some 3 := ⟨by decide, by decide, by decide +kernel⟩
theorem wm_X0_100 : (Cond.methodLink RX0 100 yX0_faultOfPart) ∈ gW := gW_of (tb_4 (List.mem_of_getElem? (i := 13) (by decide +kernel))) (by decide +kernel)
theorem wi_X0_faultOfPart : (Cond.instanceMethod yX0_faultOfPart) ∈ gW := gW_of (tb_4 (List.mem_of_getElem? (i := 15) (by decide +kernel))) (by decide +kernel)
theorem ws_X0_faultOfPart : (Cond.selects yX0_faultOfPart.cls yX0_faultOfPart yX0_faultOfPart) ∈ gW := gW_of (tb_sel (List.mem_of_getElem? (i := 12) (by decide +kernel))) (by decide +kernel)
theorem kX0_100 : xVk RX0 100 yX0_faultOfPart cX0_faultOfPart 4 (some .int) 3 0 := ⟨wm_X0_100, wi_X0_faultOfPart, ws_X0_faultOfPart, wz_X0, wc_X0_faultOfPart, pd_X0_faultOfPart, TX0, 8, rfl⟩
theorem wm_X0_111 : (Cond.methodLink RX0 111 yX4_has) ∈ gW := gW_of (tb_4 (List.mem_of_getElem? (i := 153) (by decide +kernel))) (by decide +kernel)
theorem kX0_111 : xVk RX0 111 yX4_has cX4_has 2 (some .boolean) 1 4 := ⟨wm_X0_111, wi_X4_has, ws_X4_has, wz_X4, wc_X4_has, pd_X4_has, TX4, 7, rfl⟩
theorem w_fieldLink_RX4_22_ArbitrationFees_Parties_called_J_ : (Cond.fieldLink RX4 22 "ArbitrationFees$Parties" "called" "[J") ∈ gW := gW_of (tb_1 (List.mem_of_getElem? (i := 49) (by decide +kernel))) (by decide +kernel)
theorem fX4_22 : xFl RX4 22 4 3 (.array .long) true := ⟨RX4, TX4, 7, tyX4, rfl, inX4, by decide, w_fieldLink_RX4_22_ArbitrationFees_Parties_called_J_, rfl, tyX4_ok, nmX4, rfl, by decide +kernel⟩
theorem w_fieldLink_RX4_26_ArbitrationFees_Parties_paid_J_ : (Cond.fieldLink RX4 26 "ArbitrationFees$Parties" "paid" "[J") ∈ gW := gW_of (tb_1 (List.mem_of_getElem? (i := 51) (by decide +kernel))) (by decide +kernel)
theorem fX4_26 : xFl RX4 26 4 4 (.array .long) true := ⟨RX4, TX4, 7, tyX4, rfl, inX4, by decide, w_fieldLink_RX4_26_ArbitrationFees_Parties_paid_J_, rfl, tyX4_ok, nmX4, rfl, by decide +kernel⟩
theorem mw_X4_45 : xMxL RX4 45 := ⟨gW_of (tb_3 (List.mem_of_getElem? (i := 214) (by decide +kernel))) (by decide +kernel), gW_of (tb_3 (List.mem_of_getElem? (i := 215) (by decide +kernel))) (by decide +kernel), gW_of (tb_1 (List.mem_of_getElem? (i := 16) (by decide +kernel))) (by decide +kernel), gW_of (tb_3 (List.mem_of_getElem? (i := 216) (by decide +kernel))) (by decide +kernel)⟩
theorem wc_X4_shortOf : (Cond.code yX4_shortOf cX4_shortOf 2 (some .long)) ∈ gW := gW_of (tb_3 (List.mem_of_getElem? (i := 213) (by decide +kernel))) (by decide +kernel)
theorem pd_X4_shortOf : yX4_shortOf.cls ≠ "java/lang/invoke/MethodHandle" ∧ yX4_shortOf.cls ≠ "java/lang/invoke/VarHandle" ∧ (parseMethodDescriptor yX4_shortOf.desc).map (fun d => d.parameters.length) = some 1 := ⟨by decide, by decide, by decide +kernel⟩
theorem wm_X0_112 : (Cond.methodLink RX0 112 yX4_shortOf) ∈ gW := gW_of (tb_4 (List.mem_of_getElem? (i := 170) (by decide +kernel))) (by decide +kernel)
theorem wi_X4_shortOf : (Cond.instanceMethod yX4_shortOf) ∈ gW := gW_of (tb_3 (List.mem_of_getElem? (i := 211) (by decide +kernel))) (by decide +kernel)
theorem ws_X4_shortOf : (Cond.selects yX4_shortOf.cls yX4_shortOf yX4_shortOf) ∈ gW := gW_of (tb_3 (List.mem_of_getElem? (i := 212) (by decide +kernel))) (by decide +kernel)
theorem kX0_112 : xVk RX0 112 yX4_shortOf cX4_shortOf 2 (some .long) 1 4 := ⟨wm_X0_112, wi_X4_shortOf, ws_X4_shortOf, wz_X4, wc_X4_shortOf, pd_X4_shortOf, TX4, 7, rfl⟩
theorem w_fieldLink_RX2_9_ArbitrationFees_Debts_count_I_ : (Cond.fieldLink RX2 9 "ArbitrationFees$Debts" "count" "I") ∈ gW := gW_of (tb_1 (List.mem_of_getElem? (i := 116) (by decide +kernel))) (by decide +kernel)
theorem fX2_9 : xFl RX2 9 2 0 .int false := ⟨RX2, TX2, 6, tyX2, rfl, inX2, by decide, w_fieldLink_RX2_9_ArbitrationFees_Debts_count_I_, rfl, tyX2_ok, nmX2, rfl, by decide +kernel⟩
theorem w_fieldLink_RX2_15_ArbitrationFees_Debts_debtors_I_ : (Cond.fieldLink RX2 15 "ArbitrationFees$Debts" "debtors" "[I") ∈ gW := gW_of (tb_1 (List.mem_of_getElem? (i := 119) (by decide +kernel))) (by decide +kernel)
theorem fX2_15 : xFl RX2 15 2 1 (.array .int) true := ⟨RX2, TX2, 6, tyX2, rfl, inX2, by decide, w_fieldLink_RX2_15_ArbitrationFees_Debts_debtors_I_, rfl, tyX2_ok, nmX2, rfl, by decide +kernel⟩
theorem w_fieldLink_RX2_19_ArbitrationFees_Debts_creditors_I_ : (Cond.fieldLink RX2 19 "ArbitrationFees$Debts" "creditors" "[I") ∈ gW := gW_of (tb_1 (List.mem_of_getElem? (i := 121) (by decide +kernel))) (by decide +kernel)
theorem fX2_19 : xFl RX2 19 2 2 (.array .int) true := ⟨RX2, TX2, 6, tyX2, rfl, inX2, by decide, w_fieldLink_RX2_19_ArbitrationFees_Debts_creditors_I_, rfl, tyX2_ok, nmX2, rfl, by decide +kernel⟩
theorem w_fieldLink_RX2_22_ArbitrationFees_Debts_principals_J_ : (Cond.fieldLink RX2 22 "ArbitrationFees$Debts" "principals" "[J") ∈ gW := gW_of (tb_1 (List.mem_of_getElem? (i := 123) (by decide +kernel))) (by decide +kernel)
theorem fX2_22 : xFl RX2 22 2 3 (.array .long) true := ⟨RX2, TX2, 6, tyX2, rfl, inX2, by decide, w_fieldLink_RX2_22_ArbitrationFees_Debts_principals_J_, rfl, tyX2_ok, nmX2, rfl, by decide +kernel⟩
theorem w_fieldLink_RX2_26_ArbitrationFees_Debts_interests_J_ : (Cond.fieldLink RX2 26 "ArbitrationFees$Debts" "interests" "[J") ∈ gW := gW_of (tb_1 (List.mem_of_getElem? (i := 124) (by decide +kernel))) (by decide +kernel)
theorem fX2_26 : xFl RX2 26 2 4 (.array .long) true := ⟨RX2, TX2, 6, tyX2, rfl, inX2, by decide, w_fieldLink_RX2_26_ArbitrationFees_Debts_interests_J_, rfl, tyX2_ok, nmX2, rfl, by decide +kernel⟩
theorem wz_X2 : (Cond.initialized RX2) ∈ gW := gW_of (tb_1 (List.mem_of_getElem? (i := 5) (by decide +kernel))) (by decide +kernel)
theorem wc_X2_indexOf : (Cond.code yX2_indexOf cX2_indexOf 4 (some .int)) ∈ gW := gW_of (tb_2 (List.mem_of_getElem? (i := 211) (by decide +kernel))) (by decide +kernel)
theorem pd_X2_indexOf : yX2_indexOf.cls ≠ "java/lang/invoke/MethodHandle" ∧ yX2_indexOf.cls ≠ "java/lang/invoke/VarHandle" ∧ (parseMethodDescriptor yX2_indexOf.desc).map (fun d => d.parameters.length) = some 2 := ⟨by decide, by decide, by decide +kernel⟩
theorem wm_X2_38 : (Cond.methodLink RX2 38 yX2_indexOf) ∈ gW := gW_of (tb_2 (List.mem_of_getElem? (i := 208) (by decide +kernel))) (by decide +kernel)
theorem wi_X2_indexOf : (Cond.instanceMethod yX2_indexOf) ∈ gW := gW_of (tb_2 (List.mem_of_getElem? (i := 210) (by decide +kernel))) (by decide +kernel)
theorem ws_X2_indexOf : (Cond.selects yX2_indexOf.cls yX2_indexOf yX2_indexOf) ∈ gW := gW_of (tb_sel (List.mem_of_getElem? (i := 6) (by decide +kernel))) (by decide +kernel)
theorem kX2_38 : xVk RX2 38 yX2_indexOf cX2_indexOf 4 (some .int) 2 2 := ⟨wm_X2_38, wi_X2_indexOf, ws_X2_indexOf, wz_X2, wc_X2_indexOf, pd_X2_indexOf, TX2, 6, rfl⟩
theorem wc_X2_amountOf : (Cond.code yX2_amountOf cX2_amountOf 2 (some .long)) ∈ gW := gW_of (tb_2 (List.mem_of_getElem? (i := 215) (by decide +kernel))) (by decide +kernel)
theorem pd_X2_amountOf : yX2_amountOf.cls ≠ "java/lang/invoke/MethodHandle" ∧ yX2_amountOf.cls ≠ "java/lang/invoke/VarHandle" ∧ (parseMethodDescriptor yX2_amountOf.desc).map (fun d => d.parameters.length) = some 1 := ⟨by decide, by decide, by decide +kernel⟩
theorem wm_X2_42 : (Cond.methodLink RX2 42 yX2_amountOf) ∈ gW := gW_of (tb_2 (List.mem_of_getElem? (i := 212) (by decide +kernel))) (by decide +kernel)
theorem wi_X2_amountOf : (Cond.instanceMethod yX2_amountOf) ∈ gW := gW_of (tb_2 (List.mem_of_getElem? (i := 214) (by decide +kernel))) (by decide +kernel)
theorem ws_X2_amountOf : (Cond.selects yX2_amountOf.cls yX2_amountOf yX2_amountOf) ∈ gW := gW_of (tb_sel (List.mem_of_getElem? (i := 7) (by decide +kernel))) (by decide +kernel)
theorem kX2_42 : xVk RX2 42 yX2_amountOf cX2_amountOf 2 (some .long) 1 2 := ⟨wm_X2_42, wi_X2_amountOf, ws_X2_amountOf, wz_X2, wc_X2_amountOf, pd_X2_amountOf, TX2, 6, rfl⟩
theorem wc_X2_owedBy : (Cond.code yX2_owedBy cX2_owedBy 4 (some .long)) ∈ gW := gW_of (tb_2 (List.mem_of_getElem? (i := 207) (by decide +kernel))) (by decide +kernel)
theorem pd_X2_owedBy : yX2_owedBy.cls ≠ "java/lang/invoke/MethodHandle" ∧ yX2_owedBy.cls ≠ "java/lang/invoke/VarHandle" ∧ (parseMethodDescriptor yX2_owedBy.desc).map (fun d => d.parameters.length) = some 2 := ⟨by decide, by decide, by decide +kernel⟩
theorem wm_X0_116 : (Cond.methodLink RX0 116 yX2_owedBy) ∈ gW := gW_of (tb_2 (List.mem_of_getElem? (i := 204) (by decide +kernel))) (by decide +kernel)
theorem wi_X2_owedBy : (Cond.instanceMethod yX2_owedBy) ∈ gW := gW_of (tb_2 (List.mem_of_getElem? (i := 205) (by decide +kernel))) (by decide +kernel)
theorem ws_X2_owedBy : (Cond.selects yX2_owedBy.cls yX2_owedBy yX2_owedBy) ∈ gW := gW_of (tb_2 (List.mem_of_getElem? (i := 206) (by decide +kernel))) (by decide +kernel)
theorem kX0_116 : xVk RX0 116 yX2_owedBy cX2_owedBy 4 (some .long) 2 2 := ⟨wm_X0_116, wi_X2_owedBy, ws_X2_owedBy, wz_X2, wc_X2_owedBy, pd_X2_owedBy, TX2, 6, rfl⟩
theorem kX0_120 : xNk RX0 120 yX7_isWithin cX7_isWithin 3 (some .boolean) 3 := ⟨by decide, wt_X7_isWithin, wz_X7, wc_X7_isWithin, pd_X7_isWithin⟩
theorem w_fieldLink_RX2_29_ArbitrationFees_Debts_units_J_ : (Cond.fieldLink RX2 29 "ArbitrationFees$Debts" "units" "[J") ∈ gW := gW_of (tb_1 (List.mem_of_getElem? (i := 125) (by decide +kernel))) (by decide +kernel)
theorem fX2_29 : xFl RX2 29 2 5 (.array .long) true := ⟨RX2, TX2, 6, tyX2, rfl, inX2, by decide, w_fieldLink_RX2_29_ArbitrationFees_Debts_units_J_, rfl, tyX2_ok, nmX2, rfl, by decide +kernel⟩
theorem w_fieldLink_RX3_9_ArbitrationFees_Journal_count_I_ : (Cond.fieldLink RX3 9 "ArbitrationFees$Journal" "count" "I") ∈ gW := gW_of (tb_1 (List.mem_of_getElem? (i := 145) (by decide +kernel))) (by decide +kernel)
theorem fX3_9 : xFl RX3 9 3 0 .int false := ⟨RX3, TX3, 3, tyX3, rfl, inX3, by decide, w_fieldLink_RX3_9_ArbitrationFees_Journal_count_I_, rfl, tyX3_ok, nmX3, rfl, by decide +kernel⟩
theorem w_fieldLink_RX3_15_ArbitrationFees_Journal_kinds_I_ : (Cond.fieldLink RX3 15 "ArbitrationFees$Journal" "kinds" "[I") ∈ gW := gW_of (tb_1 (List.mem_of_getElem? (i := 147) (by decide +kernel))) (by decide +kernel)
theorem fX3_15 : xFl RX3 15 3 1 (.array .int) true := ⟨RX3, TX3, 3, tyX3, rfl, inX3, by decide, w_fieldLink_RX3_15_ArbitrationFees_Journal_kinds_I_, rfl, tyX3_ok, nmX3, rfl, by decide +kernel⟩
theorem w_fieldLink_RX3_19_ArbitrationFees_Journal_amounts_J_ : (Cond.fieldLink RX3 19 "ArbitrationFees$Journal" "amounts" "[J") ∈ gW := gW_of (tb_1 (List.mem_of_getElem? (i := 149) (by decide +kernel))) (by decide +kernel)
theorem fX3_19 : xFl RX3 19 3 2 (.array .long) true := ⟨RX3, TX3, 3, tyX3, rfl, inX3, by decide, w_fieldLink_RX3_19_ArbitrationFees_Journal_amounts_J_, rfl, tyX3_ok, nmX3, rfl, by decide +kernel⟩
theorem wz_X3 : (Cond.initialized RX3) ∈ gW := gW_of (tb_1 (List.mem_of_getElem? (i := 6) (by decide +kernel))) (by decide +kernel)
theorem wc_X3_forgetOldest : (Cond.code yX3_forgetOldest cX3_forgetOldest 2 none) ∈ gW := gW_of (tb_2 (List.mem_of_getElem? (i := 173) (by decide +kernel))) (by decide +kernel)
theorem pd_X3_forgetOldest : yX3_forgetOldest.cls ≠ "java/lang/invoke/MethodHandle" ∧ yX3_forgetOldest.cls ≠ "java/lang/invoke/VarHandle" ∧ (parseMethodDescriptor yX3_forgetOldest.desc).map (fun d => d.parameters.length) = some 0 := ⟨by decide, by decide, by decide +kernel⟩
theorem wm_X3_29 : (Cond.methodLink RX3 29 yX3_forgetOldest) ∈ gW := gW_of (tb_2 (List.mem_of_getElem? (i := 170) (by decide +kernel))) (by decide +kernel)
theorem wi_X3_forgetOldest : (Cond.instanceMethod yX3_forgetOldest) ∈ gW := gW_of (tb_2 (List.mem_of_getElem? (i := 172) (by decide +kernel))) (by decide +kernel)
theorem ws_X3_forgetOldest : (Cond.selects yX3_forgetOldest.cls yX3_forgetOldest yX3_forgetOldest) ∈ gW := gW_of (tb_sel (List.mem_of_getElem? (i := 3) (by decide +kernel))) (by decide +kernel)
theorem kX3_29 : xVk RX3 29 yX3_forgetOldest cX3_forgetOldest 2 none 0 3 := ⟨wm_X3_29, wi_X3_forgetOldest, ws_X3_forgetOldest, wz_X3, wc_X3_forgetOldest, pd_X3_forgetOldest, TX3, 3, rfl⟩
theorem w_fieldLink_RX0_124_ArbitrationFees_Claims_awarded_I_ : (Cond.fieldLink RX0 124 "ArbitrationFees$Claims" "awarded" "[I") ∈ gW := gW_of (tb_1 (List.mem_of_getElem? (i := 90) (by decide +kernel))) (by decide +kernel)
theorem fX0_124 : xFl RX0 124 1 4 (.array .int) true := ⟨RX1, TX1, 7, tyX1, rfl, inX1, by decide, w_fieldLink_RX0_124_ArbitrationFees_Claims_awarded_I_, rfl, tyX1_ok, nmX1, rfl, by decide +kernel⟩
theorem w_fieldLink_RX0_127_ArbitrationFees_Claims_against_I_ : (Cond.fieldLink RX0 127 "ArbitrationFees$Claims" "against" "[I") ∈ gW := gW_of (tb_1 (List.mem_of_getElem? (i := 86) (by decide +kernel))) (by decide +kernel)
theorem fX0_127 : xFl RX0 127 1 2 (.array .int) true := ⟨RX1, TX1, 7, tyX1, rfl, inX1, by decide, w_fieldLink_RX0_127_ArbitrationFees_Claims_against_I_, rfl, tyX1_ok, nmX1, rfl, by decide +kernel⟩
theorem w_fieldLink_RX0_130_ArbitrationFees_Claims_claimants_I_ : (Cond.fieldLink RX0 130 "ArbitrationFees$Claims" "claimants" "[I") ∈ gW := gW_of (tb_1 (List.mem_of_getElem? (i := 84) (by decide +kernel))) (by decide +kernel)
theorem fX0_130 : xFl RX0 130 1 1 (.array .int) true := ⟨RX1, TX1, 7, tyX1, rfl, inX1, by decide, w_fieldLink_RX0_130_ArbitrationFees_Claims_claimants_I_, rfl, tyX1_ok, nmX1, rfl, by decide +kernel⟩
theorem wc_X2_increase : (Cond.code yX2_increase cX2_increase 6 none) ∈ gW := gW_of (tb_4 (List.mem_of_getElem? (i := 32) (by decide +kernel))) (by decide +kernel)
theorem pd_X2_increase : yX2_increase.cls ≠ "java/lang/invoke/MethodHandle" ∧ yX2_increase.cls ≠ "java/lang/invoke/VarHandle" ∧ (parseMethodDescriptor yX2_increase.desc).map (fun d => d.parameters.length) = some 3 := ⟨by decide, by decide, by decide +kernel⟩
theorem wm_X0_133 : (Cond.methodLink RX0 133 yX2_increase) ∈ gW := gW_of (tb_4 (List.mem_of_getElem? (i := 29) (by decide +kernel))) (by decide +kernel)
theorem wi_X2_increase : (Cond.instanceMethod yX2_increase) ∈ gW := gW_of (tb_4 (List.mem_of_getElem? (i := 30) (by decide +kernel))) (by decide +kernel)
theorem ws_X2_increase : (Cond.selects yX2_increase.cls yX2_increase yX2_increase) ∈ gW := gW_of (tb_4 (List.mem_of_getElem? (i := 31) (by decide +kernel))) (by decide +kernel)
theorem kX0_133 : xVk RX0 133 yX2_increase cX2_increase 6 none 3 2 := ⟨wm_X0_133, wi_X2_increase, ws_X2_increase, wz_X2, wc_X2_increase, pd_X2_increase, TX2, 6, rfl⟩
theorem wc_X3_addOne : (Cond.code yX3_addOne cX3_addOne 4 none) ∈ gW := gW_of (tb_2 (List.mem_of_getElem? (i := 169) (by decide +kernel))) (by decide +kernel)
theorem pd_X3_addOne : yX3_addOne.cls ≠ "java/lang/invoke/MethodHandle" ∧ yX3_addOne.cls ≠ "java/lang/invoke/VarHandle" ∧ (parseMethodDescriptor yX3_addOne.desc).map (fun d => d.parameters.length) = some 2 := ⟨by decide, by decide, by decide +kernel⟩
theorem wm_X0_137 : (Cond.methodLink RX0 137 yX3_addOne) ∈ gW := gW_of (tb_2 (List.mem_of_getElem? (i := 166) (by decide +kernel))) (by decide +kernel)
theorem wi_X3_addOne : (Cond.instanceMethod yX3_addOne) ∈ gW := gW_of (tb_2 (List.mem_of_getElem? (i := 167) (by decide +kernel))) (by decide +kernel)
theorem ws_X3_addOne : (Cond.selects yX3_addOne.cls yX3_addOne yX3_addOne) ∈ gW := gW_of (tb_2 (List.mem_of_getElem? (i := 168) (by decide +kernel))) (by decide +kernel)
theorem kX0_137 : xVk RX0 137 yX3_addOne cX3_addOne 4 none 2 3 := ⟨wm_X0_137, wi_X3_addOne, ws_X3_addOne, wz_X3, wc_X3_addOne, pd_X3_addOne, TX3, 3, rfl⟩
theorem w_fieldLink_RX0_141_ArbitrationFees_Claims_dismissed_I_ : (Cond.fieldLink RX0 141 "ArbitrationFees$Claims" "dismissed" "[I") ∈ gW := gW_of (tb_1 (List.mem_of_getElem? (i := 92) (by decide +kernel))) (by decide +kernel)
theorem fX0_141 : xFl RX0 141 1 5 (.array .int) true := ⟨RX1, TX1, 7, tyX1, rfl, inX1, by decide, w_fieldLink_RX0_141_ArbitrationFees_Claims_dismissed_I_, rfl, tyX1_ok, nmX1, rfl, by decide +kernel⟩
theorem w_fieldLink_RX0_144_ArbitrationFees_Claims_withdrawn_I_ : (Cond.fieldLink RX0 144 "ArbitrationFees$Claims" "withdrawn" "[I") ∈ gW := gW_of (tb_1 (List.mem_of_getElem? (i := 94) (by decide +kernel))) (by decide +kernel)
theorem fX0_144 : xFl RX0 144 1 6 (.array .int) true := ⟨RX1, TX1, 7, tyX1, rfl, inX1, by decide, w_fieldLink_RX0_144_ArbitrationFees_Claims_withdrawn_I_, rfl, tyX1_ok, nmX1, rfl, by decide +kernel⟩
theorem w_fieldLink_RX4_15_ArbitrationFees_Parties_sides_I_ : (Cond.fieldLink RX4 15 "ArbitrationFees$Parties" "sides" "[I") ∈ gW := gW_of (tb_1 (List.mem_of_getElem? (i := 46) (by decide +kernel))) (by decide +kernel)
theorem fX4_15 : xFl RX4 15 4 1 (.array .int) true := ⟨RX4, TX4, 7, tyX4, rfl, inX4, by decide, w_fieldLink_RX4_15_ArbitrationFees_Parties_sides_I_, rfl, tyX4_ok, nmX4, rfl, by decide +kernel⟩
theorem w_fieldLink_RX4_19_ArbitrationFees_Parties_weights_I_ : (Cond.fieldLink RX4 19 "ArbitrationFees$Parties" "weights" "[I") ∈ gW := gW_of (tb_1 (List.mem_of_getElem? (i := 48) (by decide +kernel))) (by decide +kernel)
theorem fX4_19 : xFl RX4 19 4 2 (.array .int) true := ⟨RX4, TX4, 7, tyX4, rfl, inX4, by decide, w_fieldLink_RX4_19_ArbitrationFees_Parties_weights_I_, rfl, tyX4_ok, nmX4, rfl, by decide +kernel⟩
theorem wc_X4_weightOn : (Cond.code yX4_weightOn cX4_weightOn 4 (some .int)) ∈ gW := gW_of (tb_2 (List.mem_of_getElem? (i := 158) (by decide +kernel))) (by decide +kernel)
theorem pd_X4_weightOn : yX4_weightOn.cls ≠ "java/lang/invoke/MethodHandle" ∧ yX4_weightOn.cls ≠ "java/lang/invoke/VarHandle" ∧ (parseMethodDescriptor yX4_weightOn.desc).map (fun d => d.parameters.length) = some 1 := ⟨by decide, by decide, by decide +kernel⟩
theorem wm_X4_51 : (Cond.methodLink RX4 51 yX4_weightOn) ∈ gW := gW_of (tb_2 (List.mem_of_getElem? (i := 155) (by decide +kernel))) (by decide +kernel)
theorem wi_X4_weightOn : (Cond.instanceMethod yX4_weightOn) ∈ gW := gW_of (tb_2 (List.mem_of_getElem? (i := 156) (by decide +kernel))) (by decide +kernel)
theorem ws_X4_weightOn : (Cond.selects yX4_weightOn.cls yX4_weightOn yX4_weightOn) ∈ gW := gW_of (tb_2 (List.mem_of_getElem? (i := 157) (by decide +kernel))) (by decide +kernel)
theorem kX4_51 : xVk RX4 51 yX4_weightOn cX4_weightOn 4 (some .int) 1 4 := ⟨wm_X4_51, wi_X4_weightOn, ws_X4_weightOn, wz_X4, wc_X4_weightOn, pd_X4_weightOn, TX4, 7, rfl⟩
theorem wc_X4_partOf : (Cond.code yX4_partOf cX4_partOf 10 (some .long)) ∈ gW := gW_of (tb_2 (List.mem_of_getElem? (i := 154) (by decide +kernel))) (by decide +kernel)
theorem pd_X4_partOf : yX4_partOf.cls ≠ "java/lang/invoke/MethodHandle" ∧ yX4_partOf.cls ≠ "java/lang/invoke/VarHandle" ∧ (parseMethodDescriptor yX4_partOf.desc).map (fun d => d.parameters.length) = some 2 := ⟨by decide, by decide, by decide +kernel⟩
theorem wm_X0_147 : (Cond.methodLink RX0 147 yX4_partOf) ∈ gW := gW_of (tb_2 (List.mem_of_getElem? (i := 151) (by decide +kernel))) (by decide +kernel)
theorem wi_X4_partOf : (Cond.instanceMethod yX4_partOf) ∈ gW := gW_of (tb_2 (List.mem_of_getElem? (i := 152) (by decide +kernel))) (by decide +kernel)
theorem ws_X4_partOf : (Cond.selects yX4_partOf.cls yX4_partOf yX4_partOf) ∈ gW := gW_of (tb_2 (List.mem_of_getElem? (i := 153) (by decide +kernel))) (by decide +kernel)
theorem kX0_147 : xVk RX0 147 yX4_partOf cX4_partOf 10 (some .long) 2 4 := ⟨wm_X0_147, wi_X4_partOf, ws_X4_partOf, wz_X4, wc_X4_partOf, pd_X4_partOf, TX4, 7, rfl⟩
theorem w_fieldLink_RX0_151_ArbitrationFees_Parties_called_J_ : (Cond.fieldLink RX0 151 "ArbitrationFees$Parties" "called" "[J") ∈ gW := gW_of (tb_1 (List.mem_of_getElem? (i := 50) (by decide +kernel))) (by decide +kernel)
theorem fX0_151 : xFl RX0 151 4 3 (.array .long) true := ⟨RX4, TX4, 7, tyX4, rfl, inX4, by decide, w_fieldLink_RX0_151_ArbitrationFees_Parties_called_J_, rfl, tyX4_ok, nmX4, rfl, by decide +kernel⟩
theorem w_fieldLink_RX0_155_ArbitrationFees_Parties_paid_J_ : (Cond.fieldLink RX0 155 "ArbitrationFees$Parties" "paid" "[J") ∈ gW := gW_of (tb_1 (List.mem_of_getElem? (i := 52) (by decide +kernel))) (by decide +kernel)
theorem fX0_155 : xFl RX0 155 4 4 (.array .long) true := ⟨RX4, TX4, 7, tyX4, rfl, inX4, by decide, w_fieldLink_RX0_155_ArbitrationFees_Parties_paid_J_, rfl, tyX4_ok, nmX4, rfl, by decide +kernel⟩
theorem wc_X0_makePayment : (Cond.code yX0_makePayment cX0_makePayment 4 none) ∈ gW := gW_of (tb_4 (List.mem_of_getElem? (i := 157) (by decide +kernel))) (by decide +kernel)
theorem pd_X0_makePayment : yX0_makePayment.cls ≠ "java/lang/invoke/MethodHandle" ∧ yX0_makePayment.cls ≠ "java/lang/invoke/VarHandle" ∧ (parseMethodDescriptor yX0_makePayment.desc).map (fun d => d.parameters.length) = some 2 := ⟨by decide, by decide, by decide +kernel⟩
theorem wm_X0_158 : (Cond.methodLink RX0 158 yX0_makePayment) ∈ gW := gW_of (tb_4 (List.mem_of_getElem? (i := 175) (by decide +kernel))) (by decide +kernel)
theorem wi_X0_makePayment : (Cond.instanceMethod yX0_makePayment) ∈ gW := gW_of (tb_4 (List.mem_of_getElem? (i := 155) (by decide +kernel))) (by decide +kernel)
theorem ws_X0_makePayment : (Cond.selects yX0_makePayment.cls yX0_makePayment yX0_makePayment) ∈ gW := gW_of (tb_4 (List.mem_of_getElem? (i := 156) (by decide +kernel))) (by decide +kernel)
theorem kX0_158 : xVk RX0 158 yX0_makePayment cX0_makePayment 4 none 2 0 := ⟨wm_X0_158, wi_X0_makePayment, ws_X0_makePayment, wz_X0, wc_X0_makePayment, pd_X0_makePayment, TX0, 8, rfl⟩
theorem w_fieldLink_RX0_206_ArbitrationFees_Accounts_TIER_FLOORS_I_ : (Cond.fieldLink RX0 206 "ArbitrationFees$Accounts" "TIER_FLOORS" "[I") ∈ gW := gW_of (tb_2 (List.mem_of_getElem? (i := 139) (by decide +kernel))) (by decide +kernel)
theorem w_constantLong_RX0_209_10000 : (Cond.constantLong RX0 209 10000) ∈ gW := gW_of (tb_2 (List.mem_of_getElem? (i := 141) (by decide +kernel))) (by decide +kernel)
theorem w_constantLong_RX0_211_5000 : (Cond.constantLong RX0 211 5000) ∈ gW := gW_of (tb_2 (List.mem_of_getElem? (i := 134) (by decide +kernel))) (by decide +kernel)
theorem wc_X0_feeOfTier : (Cond.code yX0_feeOfTier cX0_feeOfTier 8 (some .long)) ∈ gW := gW_of (tb_2 (List.mem_of_getElem? (i := 138) (by decide +kernel))) (by decide +kernel)
theorem pd_X0_feeOfTier : yX0_feeOfTier.cls ≠ "java/lang/invoke/MethodHandle" ∧ yX0_feeOfTier.cls ≠ "java/lang/invoke/VarHandle" ∧ (parseMethodDescriptor yX0_feeOfTier.desc).map (fun d => d.parameters.length) = some 2 := ⟨by decide, by decide, by decide +kernel⟩
theorem wm_X0_213 : (Cond.methodLink RX0 213 yX0_feeOfTier) ∈ gW := gW_of (tb_2 (List.mem_of_getElem? (i := 135) (by decide +kernel))) (by decide +kernel)
theorem wi_X0_feeOfTier : (Cond.instanceMethod yX0_feeOfTier) ∈ gW := gW_of (tb_2 (List.mem_of_getElem? (i := 136) (by decide +kernel))) (by decide +kernel)
theorem ws_X0_feeOfTier : (Cond.selects yX0_feeOfTier.cls yX0_feeOfTier yX0_feeOfTier) ∈ gW := gW_of (tb_2 (List.mem_of_getElem? (i := 137) (by decide +kernel))) (by decide +kernel)
theorem kX0_213 : xVk RX0 213 yX0_feeOfTier cX0_feeOfTier 8 (some .long) 2 0 := ⟨wm_X0_213, wi_X0_feeOfTier, ws_X0_feeOfTier, wz_X0, wc_X0_feeOfTier, pd_X0_feeOfTier, TX0, 8, rfl⟩
theorem wc_X1_sumInDispute : (Cond.code yX1_sumInDispute cX1_sumInDispute 4 (some .long)) ∈ gW := gW_of (tb_2 (List.mem_of_getElem? (i := 73) (by decide +kernel))) (by decide +kernel)
theorem pd_X1_sumInDispute : yX1_sumInDispute.cls ≠ "java/lang/invoke/MethodHandle" ∧ yX1_sumInDispute.cls ≠ "java/lang/invoke/VarHandle" ∧ (parseMethodDescriptor yX1_sumInDispute.desc).map (fun d => d.parameters.length) = some 0 := ⟨by decide, by decide, by decide +kernel⟩
theorem wm_X0_216 : (Cond.methodLink RX0 216 yX1_sumInDispute) ∈ gW := gW_of (tb_2 (List.mem_of_getElem? (i := 129) (by decide +kernel))) (by decide +kernel)
theorem wi_X1_sumInDispute : (Cond.instanceMethod yX1_sumInDispute) ∈ gW := gW_of (tb_2 (List.mem_of_getElem? (i := 71) (by decide +kernel))) (by decide +kernel)
theorem ws_X1_sumInDispute : (Cond.selects yX1_sumInDispute.cls yX1_sumInDispute yX1_sumInDispute) ∈ gW := gW_of (tb_2 (List.mem_of_getElem? (i := 72) (by decide +kernel))) (by decide +kernel)
theorem kX0_216 : xVk RX0 216 yX1_sumInDispute cX1_sumInDispute 4 (some .long) 0 1 := ⟨wm_X0_216, wi_X1_sumInDispute, ws_X1_sumInDispute, wz_X1, wc_X1_sumInDispute, pd_X1_sumInDispute, TX1, 7, rfl⟩
theorem wc_X0_feesOfSum : (Cond.code yX0_feesOfSum cX0_feesOfSum 6 (some .long)) ∈ gW := gW_of (tb_2 (List.mem_of_getElem? (i := 133) (by decide +kernel))) (by decide +kernel)
theorem pd_X0_feesOfSum : yX0_feesOfSum.cls ≠ "java/lang/invoke/MethodHandle" ∧ yX0_feesOfSum.cls ≠ "java/lang/invoke/VarHandle" ∧ (parseMethodDescriptor yX0_feesOfSum.desc).map (fun d => d.parameters.length) = some 1 := ⟨by decide, by decide, by decide +kernel⟩
theorem wm_X0_220 : (Cond.methodLink RX0 220 yX0_feesOfSum) ∈ gW := gW_of (tb_2 (List.mem_of_getElem? (i := 130) (by decide +kernel))) (by decide +kernel)
theorem wi_X0_feesOfSum : (Cond.instanceMethod yX0_feesOfSum) ∈ gW := gW_of (tb_2 (List.mem_of_getElem? (i := 131) (by decide +kernel))) (by decide +kernel)
theorem ws_X0_feesOfSum : (Cond.selects yX0_feesOfSum.cls yX0_feesOfSum yX0_feesOfSum) ∈ gW := gW_of (tb_2 (List.mem_of_getElem? (i := 132) (by decide +kernel))) (by decide +kernel)
theorem kX0_220 : xVk RX0 220 yX0_feesOfSum cX0_feesOfSum 6 (some .long) 1 0 := ⟨wm_X0_220, wi_X0_feesOfSum, ws_X0_feesOfSum, wz_X0, wc_X0_feesOfSum, pd_X0_feesOfSum, TX0, 8, rfl⟩
theorem wc_X0_isClaimOf : (Cond.code yX0_isClaimOf cX0_isClaimOf 3 (some .boolean)) ∈ gW := gW_of (tb_2 (List.mem_of_getElem? (i := 149) (by decide +kernel))) (by decide +kernel)
theorem pd_X0_isClaimOf : yX0_isClaimOf.cls ≠ "java/lang/invoke/MethodHandle" ∧ yX0_isClaimOf.cls ≠ "java/lang/invoke/VarHandle" ∧ (parseMethodDescriptor yX0_isClaimOf.desc).map (fun d => d.parameters.length) = some 2 := ⟨by decide, by decide, by decide +kernel⟩
theorem wm_X0_224 : (Cond.methodLink RX0 224 yX0_isClaimOf) ∈ gW := gW_of (tb_2 (List.mem_of_getElem? (i := 146) (by decide +kernel))) (by decide +kernel)
theorem wi_X0_isClaimOf : (Cond.instanceMethod yX0_isClaimOf) ∈ gW := gW_of (tb_2 (List.mem_of_getElem? (i := 148) (by decide +kernel))) (by decide +kernel)
theorem ws_X0_isClaimOf : (Cond.selects yX0_isClaimOf.cls yX0_isClaimOf yX0_isClaimOf) ∈ gW := gW_of (tb_sel (List.mem_of_getElem? (i := 2) (by decide +kernel))) (by decide +kernel)
theorem kX0_224 : xVk RX0 224 yX0_isClaimOf cX0_isClaimOf 3 (some .boolean) 2 0 := ⟨wm_X0_224, wi_X0_isClaimOf, ws_X0_isClaimOf, wz_X0, wc_X0_isClaimOf, pd_X0_isClaimOf, TX0, 8, rfl⟩
theorem wc_X0_feesOfAll : (Cond.code yX0_feesOfAll cX0_feesOfAll 1 (some .long)) ∈ gW := gW_of (tb_2 (List.mem_of_getElem? (i := 128) (by decide +kernel))) (by decide +kernel)
theorem pd_X0_feesOfAll : yX0_feesOfAll.cls ≠ "java/lang/invoke/MethodHandle" ∧ yX0_feesOfAll.cls ≠ "java/lang/invoke/VarHandle" ∧ (parseMethodDescriptor yX0_feesOfAll.desc).map (fun d => d.parameters.length) = some 0 := ⟨by decide, by decide, by decide +kernel⟩
theorem wm_X0_230 : (Cond.methodLink RX0 230 yX0_feesOfAll) ∈ gW := gW_of (tb_2 (List.mem_of_getElem? (i := 125) (by decide +kernel))) (by decide +kernel)
theorem wi_X0_feesOfAll : (Cond.instanceMethod yX0_feesOfAll) ∈ gW := gW_of (tb_2 (List.mem_of_getElem? (i := 126) (by decide +kernel))) (by decide +kernel)
theorem ws_X0_feesOfAll : (Cond.selects yX0_feesOfAll.cls yX0_feesOfAll yX0_feesOfAll) ∈ gW := gW_of (tb_2 (List.mem_of_getElem? (i := 127) (by decide +kernel))) (by decide +kernel)
theorem kX0_230 : xVk RX0 230 yX0_feesOfAll cX0_feesOfAll 1 (some .long) 0 0 := ⟨wm_X0_230, wi_X0_feesOfAll, ws_X0_feesOfAll, wz_X0, wc_X0_feesOfAll, pd_X0_feesOfAll, TX0, 8, rfl⟩
theorem wc_X0_lostBy : (Cond.code yX0_lostBy cX0_lostBy 5 (some .long)) ∈ gW := gW_of (tb_2 (List.mem_of_getElem? (i := 145) (by decide +kernel))) (by decide +kernel)
theorem pd_X0_lostBy : yX0_lostBy.cls ≠ "java/lang/invoke/MethodHandle" ∧ yX0_lostBy.cls ≠ "java/lang/invoke/VarHandle" ∧ (parseMethodDescriptor yX0_lostBy.desc).map (fun d => d.parameters.length) = some 1 := ⟨by decide, by decide, by decide +kernel⟩
theorem wm_X0_233 : (Cond.methodLink RX0 233 yX0_lostBy) ∈ gW := gW_of (tb_2 (List.mem_of_getElem? (i := 142) (by decide +kernel))) (by decide +kernel)
theorem wi_X0_lostBy : (Cond.instanceMethod yX0_lostBy) ∈ gW := gW_of (tb_2 (List.mem_of_getElem? (i := 143) (by decide +kernel))) (by decide +kernel)
theorem ws_X0_lostBy : (Cond.selects yX0_lostBy.cls yX0_lostBy yX0_lostBy) ∈ gW := gW_of (tb_2 (List.mem_of_getElem? (i := 144) (by decide +kernel))) (by decide +kernel)
theorem kX0_233 : xVk RX0 233 yX0_lostBy cX0_lostBy 5 (some .long) 1 0 := ⟨wm_X0_233, wi_X0_lostBy, ws_X0_lostBy, wz_X0, wc_X0_lostBy, pd_X0_lostBy, TX0, 8, rfl⟩
theorem w_constantLong_RX0_236_2 : (Cond.constantLong RX0 236 2) ∈ gW := gW_of (tb_2 (List.mem_of_getElem? (i := 150) (by decide +kernel))) (by decide +kernel)
theorem wc_X0_shareOfSide : (Cond.code yX0_shareOfSide cX0_shareOfSide 10 (some .long)) ∈ gW := gW_of (tb_2 (List.mem_of_getElem? (i := 124) (by decide +kernel))) (by decide +kernel)
theorem pd_X0_shareOfSide : yX0_shareOfSide.cls ≠ "java/lang/invoke/MethodHandle" ∧ yX0_shareOfSide.cls ≠ "java/lang/invoke/VarHandle" ∧ (parseMethodDescriptor yX0_shareOfSide.desc).map (fun d => d.parameters.length) = some 1 := ⟨by decide, by decide, by decide +kernel⟩
theorem wm_X0_238 : (Cond.methodLink RX0 238 yX0_shareOfSide) ∈ gW := gW_of (tb_2 (List.mem_of_getElem? (i := 121) (by decide +kernel))) (by decide +kernel)
theorem wi_X0_shareOfSide : (Cond.instanceMethod yX0_shareOfSide) ∈ gW := gW_of (tb_2 (List.mem_of_getElem? (i := 122) (by decide +kernel))) (by decide +kernel)
theorem ws_X0_shareOfSide : (Cond.selects yX0_shareOfSide.cls yX0_shareOfSide yX0_shareOfSide) ∈ gW := gW_of (tb_2 (List.mem_of_getElem? (i := 123) (by decide +kernel))) (by decide +kernel)
theorem kX0_238 : xVk RX0 238 yX0_shareOfSide cX0_shareOfSide 10 (some .long) 1 0 := ⟨wm_X0_238, wi_X0_shareOfSide, ws_X0_shareOfSide, wz_X0, wc_X0_shareOfSide, pd_X0_shareOfSide, TX0, 8, rfl⟩
theorem w_fieldLink_RX4_29_ArbitrationFees_Parties_taken_J_ : (Cond.fieldLink RX4 29 "ArbitrationFees$Parties" "taken" "[J") ∈ gW := gW_of (tb_1 (List.mem_of_getElem? (i := 53) (by decide +kernel))) (by decide +kernel)
theorem fX4_29 : xFl RX4 29 4 5 (.array .long) true := ⟨RX4, TX4, 7, tyX4, rfl, inX4, by decide, w_fieldLink_RX4_29_ArbitrationFees_Parties_taken_J_, rfl, tyX4_ok, nmX4, rfl, by decide +kernel⟩
theorem w_fieldLink_RX4_32_ArbitrationFees_Parties_returned_J_ : (Cond.fieldLink RX4 32 "ArbitrationFees$Parties" "returned" "[J") ∈ gW := gW_of (tb_1 (List.mem_of_getElem? (i := 55) (by decide +kernel))) (by decide +kernel)
theorem fX4_32 : xFl RX4 32 4 6 (.array .long) true := ⟨RX4, TX4, 7, tyX4, rfl, inX4, by decide, w_fieldLink_RX4_32_ArbitrationFees_Parties_returned_J_, rfl, tyX4_ok, nmX4, rfl, by decide +kernel⟩
theorem wc_X0_shareOfParty : (Cond.code yX0_shareOfParty cX0_shareOfParty 2 (some .long)) ∈ gW := gW_of (tb_2 (List.mem_of_getElem? (i := 120) (by decide +kernel))) (by decide +kernel)
theorem pd_X0_shareOfParty : yX0_shareOfParty.cls ≠ "java/lang/invoke/MethodHandle" ∧ yX0_shareOfParty.cls ≠ "java/lang/invoke/VarHandle" ∧ (parseMethodDescriptor yX0_shareOfParty.desc).map (fun d => d.parameters.length) = some 1 := ⟨by decide, by decide, by decide +kernel⟩
theorem wm_X0_161 : (Cond.methodLink RX0 161 yX0_shareOfParty) ∈ gW := gW_of (tb_2 (List.mem_of_getElem? (i := 117) (by decide +kernel))) (by decide +kernel)
theorem wi_X0_shareOfParty : (Cond.instanceMethod yX0_shareOfParty) ∈ gW := gW_of (tb_2 (List.mem_of_getElem? (i := 118) (by decide +kernel))) (by decide +kernel)
theorem ws_X0_shareOfParty : (Cond.selects yX0_shareOfParty.cls yX0_shareOfParty yX0_shareOfParty) ∈ gW := gW_of (tb_2 (List.mem_of_getElem? (i := 119) (by decide +kernel))) (by decide +kernel)
theorem kX0_161 : xVk RX0 161 yX0_shareOfParty cX0_shareOfParty 2 (some .long) 1 0 := ⟨wm_X0_161, wi_X0_shareOfParty, ws_X0_shareOfParty, wz_X0, wc_X0_shareOfParty, pd_X0_shareOfParty, TX0, 8, rfl⟩
theorem w_fieldLink_RX0_164_ArbitrationFees_Parties_taken_J_ : (Cond.fieldLink RX0 164 "ArbitrationFees$Parties" "taken" "[J") ∈ gW := gW_of (tb_1 (List.mem_of_getElem? (i := 54) (by decide +kernel))) (by decide +kernel)
theorem fX0_164 : xFl RX0 164 4 5 (.array .long) true := ⟨RX4, TX4, 7, tyX4, rfl, inX4, by decide, w_fieldLink_RX0_164_ArbitrationFees_Parties_taken_J_, rfl, tyX4_ok, nmX4, rfl, by decide +kernel⟩
theorem wc_X4_heldFor : (Cond.code yX4_heldFor cX4_heldFor 2 (some .long)) ∈ gW := gW_of (tb_2 (List.mem_of_getElem? (i := 162) (by decide +kernel))) (by decide +kernel)
theorem pd_X4_heldFor : yX4_heldFor.cls ≠ "java/lang/invoke/MethodHandle" ∧ yX4_heldFor.cls ≠ "java/lang/invoke/VarHandle" ∧ (parseMethodDescriptor yX4_heldFor.desc).map (fun d => d.parameters.length) = some 1 := ⟨by decide, by decide, by decide +kernel⟩
theorem wm_X0_167 : (Cond.methodLink RX0 167 yX4_heldFor) ∈ gW := gW_of (tb_2 (List.mem_of_getElem? (i := 159) (by decide +kernel))) (by decide +kernel)
theorem wi_X4_heldFor : (Cond.instanceMethod yX4_heldFor) ∈ gW := gW_of (tb_2 (List.mem_of_getElem? (i := 160) (by decide +kernel))) (by decide +kernel)
theorem ws_X4_heldFor : (Cond.selects yX4_heldFor.cls yX4_heldFor yX4_heldFor) ∈ gW := gW_of (tb_2 (List.mem_of_getElem? (i := 161) (by decide +kernel))) (by decide +kernel)
theorem kX0_167 : xVk RX0 167 yX4_heldFor cX4_heldFor 2 (some .long) 1 4 := ⟨wm_X0_167, wi_X4_heldFor, ws_X4_heldFor, wz_X4, wc_X4_heldFor, pd_X4_heldFor, TX4, 7, rfl⟩
theorem mw_X0_170 : xMmL RX0 170 := ⟨gW_of (tb_2 (List.mem_of_getElem? (i := 163) (by decide +kernel))) (by decide +kernel), gW_of (tb_2 (List.mem_of_getElem? (i := 164) (by decide +kernel))) (by decide +kernel), gW_of (tb_1 (List.mem_of_getElem? (i := 16) (by decide +kernel))) (by decide +kernel), gW_of (tb_2 (List.mem_of_getElem? (i := 165) (by decide +kernel))) (by decide +kernel)⟩
theorem mw_X0_176 : xMxL RX0 176 := ⟨gW_of (tb_4 (List.mem_of_getElem? (i := 187) (by decide +kernel))) (by decide +kernel), gW_of (tb_3 (List.mem_of_getElem? (i := 215) (by decide +kernel))) (by decide +kernel), gW_of (tb_1 (List.mem_of_getElem? (i := 16) (by decide +kernel))) (by decide +kernel), gW_of (tb_3 (List.mem_of_getElem? (i := 216) (by decide +kernel))) (by decide +kernel)⟩
theorem w_fieldLink_RX0_179_ArbitrationFees_Parties_returned_J_ : (Cond.fieldLink RX0 179 "ArbitrationFees$Parties" "returned" "[J") ∈ gW := gW_of (tb_1 (List.mem_of_getElem? (i := 56) (by decide +kernel))) (by decide +kernel)
theorem fX0_179 : xFl RX0 179 4 6 (.array .long) true := ⟨RX4, TX4, 7, tyX4, rfl, inX4, by decide, w_fieldLink_RX0_179_ArbitrationFees_Parties_returned_J_, rfl, tyX4_ok, nmX4, rfl, by decide +kernel⟩
theorem mw_X2_46 : xMmL RX2 46 := ⟨gW_of (tb_2 (List.mem_of_getElem? (i := 220) (by decide +kernel))) (by decide +kernel), gW_of (tb_2 (List.mem_of_getElem? (i := 164) (by decide +kernel))) (by decide +kernel), gW_of (tb_1 (List.mem_of_getElem? (i := 16) (by decide +kernel))) (by decide +kernel), gW_of (tb_2 (List.mem_of_getElem? (i := 165) (by decide +kernel))) (by decide +kernel)⟩
theorem wc_X2_removeAt : (Cond.code yX2_removeAt cX2_removeAt 3 none) ∈ gW := gW_of (tb_2 (List.mem_of_getElem? (i := 224) (by decide +kernel))) (by decide +kernel)
theorem pd_X2_removeAt : yX2_removeAt.cls ≠ "java/lang/invoke/MethodHandle" ∧ yX2_removeAt.cls ≠ "java/lang/invoke/VarHandle" ∧ (parseMethodDescriptor yX2_removeAt.desc).map (fun d => d.parameters.length) = some 1 := ⟨by decide, by decide, by decide +kernel⟩
theorem wm_X2_52 : (Cond.methodLink RX2 52 yX2_removeAt) ∈ gW := gW_of (tb_2 (List.mem_of_getElem? (i := 221) (by decide +kernel))) (by decide +kernel)
theorem wi_X2_removeAt : (Cond.instanceMethod yX2_removeAt) ∈ gW := gW_of (tb_2 (List.mem_of_getElem? (i := 223) (by decide +kernel))) (by decide +kernel)
theorem ws_X2_removeAt : (Cond.selects yX2_removeAt.cls yX2_removeAt yX2_removeAt) ∈ gW := gW_of (tb_sel (List.mem_of_getElem? (i := 8) (by decide +kernel))) (by decide +kernel)
theorem kX2_52 : xVk RX2 52 yX2_removeAt cX2_removeAt 3 none 1 2 := ⟨wm_X2_52, wi_X2_removeAt, ws_X2_removeAt, wz_X2, wc_X2_removeAt, pd_X2_removeAt, TX2, 6, rfl⟩
theorem wc_X2_reduce : (Cond.code yX2_reduce cX2_reduce 8 none) ∈ gW := gW_of (tb_2 (List.mem_of_getElem? (i := 219) (by decide +kernel))) (by decide +kernel)
theorem pd_X2_reduce : yX2_reduce.cls ≠ "java/lang/invoke/MethodHandle" ∧ yX2_reduce.cls ≠ "java/lang/invoke/VarHandle" ∧ (parseMethodDescriptor yX2_reduce.desc).map (fun d => d.parameters.length) = some 3 := ⟨by decide, by decide, by decide +kernel⟩
theorem wm_X0_182 : (Cond.methodLink RX0 182 yX2_reduce) ∈ gW := gW_of (tb_2 (List.mem_of_getElem? (i := 216) (by decide +kernel))) (by decide +kernel)
theorem wi_X2_reduce : (Cond.instanceMethod yX2_reduce) ∈ gW := gW_of (tb_2 (List.mem_of_getElem? (i := 217) (by decide +kernel))) (by decide +kernel)
theorem ws_X2_reduce : (Cond.selects yX2_reduce.cls yX2_reduce yX2_reduce) ∈ gW := gW_of (tb_2 (List.mem_of_getElem? (i := 218) (by decide +kernel))) (by decide +kernel)
theorem kX0_182 : xVk RX0 182 yX2_reduce cX2_reduce 8 none 3 2 := ⟨wm_X0_182, wi_X2_reduce, ws_X2_reduce, wz_X2, wc_X2_reduce, pd_X2_reduce, TX2, 6, rfl⟩
theorem w_fieldLink_RX5_30_ArbitrationFees_Debts_count_I_ : (Cond.fieldLink RX5 30 "ArbitrationFees$Debts" "count" "I") ∈ gW := gW_of (tb_1 (List.mem_of_getElem? (i := 118) (by decide +kernel))) (by decide +kernel)
theorem fX5_30 : xFl RX5 30 2 0 .int false := ⟨RX2, TX2, 6, tyX2, rfl, inX2, by decide, w_fieldLink_RX5_30_ArbitrationFees_Debts_count_I_, rfl, tyX2_ok, nmX2, rfl, by decide +kernel⟩
theorem w_fieldLink_RX5_19_ArbitrationFees_RingFinder_creditors_I_ : (Cond.fieldLink RX5 19 "ArbitrationFees$RingFinder" "creditors" "[I") ∈ gW := gW_of (tb_2 (List.mem_of_getElem? (i := 16) (by decide +kernel))) (by decide +kernel)
theorem fX5_19 : xFl RX5 19 5 2 (.array .int) true := ⟨RX5, TX5, 3, tyX5, rfl, inX5, by decide, w_fieldLink_RX5_19_ArbitrationFees_RingFinder_creditors_I_, rfl, tyX5_ok, nmX5, rfl, by decide +kernel⟩
theorem w_fieldLink_RX5_35_ArbitrationFees_Debts_debtors_I_ : (Cond.fieldLink RX5 35 "ArbitrationFees$Debts" "debtors" "[I") ∈ gW := gW_of (tb_1 (List.mem_of_getElem? (i := 120) (by decide +kernel))) (by decide +kernel)
theorem fX5_35 : xFl RX5 35 2 1 (.array .int) true := ⟨RX2, TX2, 6, tyX2, rfl, inX2, by decide, w_fieldLink_RX5_35_ArbitrationFees_Debts_debtors_I_, rfl, tyX2_ok, nmX2, rfl, by decide +kernel⟩
theorem w_fieldLink_RX5_38_ArbitrationFees_Debts_creditors_I_ : (Cond.fieldLink RX5 38 "ArbitrationFees$Debts" "creditors" "[I") ∈ gW := gW_of (tb_1 (List.mem_of_getElem? (i := 122) (by decide +kernel))) (by decide +kernel)
theorem fX5_38 : xFl RX5 38 2 2 (.array .int) true := ⟨RX2, TX2, 6, tyX2, rfl, inX2, by decide, w_fieldLink_RX5_38_ArbitrationFees_Debts_creditors_I_, rfl, tyX2_ok, nmX2, rfl, by decide +kernel⟩
theorem wz_X5 : (Cond.initialized RX5) ∈ gW := gW_of (tb_1 (List.mem_of_getElem? (i := 8) (by decide +kernel))) (by decide +kernel)
theorem wc_X5_stands : (Cond.code yX5_stands cX5_stands 4 (some .boolean)) ∈ gW := gW_of (tb_2 (List.mem_of_getElem? (i := 195) (by decide +kernel))) (by decide +kernel)
theorem pd_X5_stands : yX5_stands.cls ≠ "java/lang/invoke/MethodHandle" ∧ yX5_stands.cls ≠ "java/lang/invoke/VarHandle" ∧ (parseMethodDescriptor yX5_stands.desc).map (fun d => d.parameters.length) = some 3 := ⟨by decide, by decide, by decide +kernel⟩
theorem wm_X5_39 : (Cond.methodLink RX5 39 yX5_stands) ∈ gW := gW_of (tb_2 (List.mem_of_getElem? (i := 193) (by decide +kernel))) (by decide +kernel)
theorem wt_X5_stands : (Cond.static yX5_stands) ∈ gW := gW_of (tb_2 (List.mem_of_getElem? (i := 194) (by decide +kernel))) (by decide +kernel)
theorem kX5_39 : xSk RX5 39 yX5_stands cX5_stands 4 (some .boolean) 3 := ⟨wm_X5_39, wt_X5_stands, wz_X5, wc_X5_stands, pd_X5_stands⟩
theorem wc_X5_closes : (Cond.code yX5_closes cX5_closes 6 (some .boolean)) ∈ gW := gW_of (tb_2 (List.mem_of_getElem? (i := 192) (by decide +kernel))) (by decide +kernel)
theorem pd_X5_closes : yX5_closes.cls ≠ "java/lang/invoke/MethodHandle" ∧ yX5_closes.cls ≠ "java/lang/invoke/VarHandle" ∧ (parseMethodDescriptor yX5_closes.desc).map (fun d => d.parameters.length) = some 4 := ⟨by decide, by decide, by decide +kernel⟩
theorem wm_X5_26 : (Cond.methodLink RX5 26 yX5_closes) ∈ gW := gW_of (tb_2 (List.mem_of_getElem? (i := 190) (by decide +kernel))) (by decide +kernel)
theorem wt_X5_closes : (Cond.static yX5_closes) ∈ gW := gW_of (tb_2 (List.mem_of_getElem? (i := 191) (by decide +kernel))) (by decide +kernel)
theorem kX5_26 : xSk RX5 26 yX5_closes cX5_closes 6 (some .boolean) 4 := ⟨wm_X5_26, wt_X5_closes, wz_X5, wc_X5_closes, pd_X5_closes⟩
theorem wc_X5_markCreditors : (Cond.code yX5_markCreditors cX5_markCreditors 3 none) ∈ gW := gW_of (tb_2 (List.mem_of_getElem? (i := 189) (by decide +kernel))) (by decide +kernel)
theorem pd_X5_markCreditors : yX5_markCreditors.cls ≠ "java/lang/invoke/MethodHandle" ∧ yX5_markCreditors.cls ≠ "java/lang/invoke/VarHandle" ∧ (parseMethodDescriptor yX5_markCreditors.desc).map (fun d => d.parameters.length) = some 1 := ⟨by decide, by decide, by decide +kernel⟩
theorem wm_X5_22 : (Cond.methodLink RX5 22 yX5_markCreditors) ∈ gW := gW_of (tb_2 (List.mem_of_getElem? (i := 186) (by decide +kernel))) (by decide +kernel)
theorem wi_X5_markCreditors : (Cond.instanceMethod yX5_markCreditors) ∈ gW := gW_of (tb_2 (List.mem_of_getElem? (i := 188) (by decide +kernel))) (by decide +kernel)
theorem ws_X5_markCreditors : (Cond.selects yX5_markCreditors.cls yX5_markCreditors yX5_markCreditors) ∈ gW := gW_of (tb_sel (List.mem_of_getElem? (i := 4) (by decide +kernel))) (by decide +kernel)
theorem kX5_22 : xVk RX5 22 yX5_markCreditors cX5_markCreditors 3 none 1 5 := ⟨wm_X5_22, wi_X5_markCreditors, ws_X5_markCreditors, wz_X5, wc_X5_markCreditors, pd_X5_markCreditors, TX5, 3, rfl⟩
theorem w_fieldLink_RX5_9_ArbitrationFees_RingFinder_length_I_ : (Cond.fieldLink RX5 9 "ArbitrationFees$RingFinder" "length" "I") ∈ gW := gW_of (tb_2 (List.mem_of_getElem? (i := 10) (by decide +kernel))) (by decide +kernel)
theorem fX5_9 : xFl RX5 9 5 0 .int false := ⟨RX5, TX5, 3, tyX5, rfl, inX5, by decide, w_fieldLink_RX5_9_ArbitrationFees_RingFinder_length_I_, rfl, tyX5_ok, nmX5, rfl, by decide +kernel⟩
theorem w_fieldLink_RX5_15_ArbitrationFees_RingFinder_row_I_ : (Cond.fieldLink RX5 15 "ArbitrationFees$RingFinder" "row" "[I") ∈ gW := gW_of (tb_2 (List.mem_of_getElem? (i := 13) (by decide +kernel))) (by decide +kernel)
theorem fX5_15 : xFl RX5 15 5 1 (.array .int) true := ⟨RX5, TX5, 3, tyX5, rfl, inX5, by decide, w_fieldLink_RX5_15_ArbitrationFees_RingFinder_row_I_, rfl, tyX5_ok, nmX5, rfl, by decide +kernel⟩
theorem w_fieldLink_RX0_197_ArbitrationFees_RingFinder_row_I_ : (Cond.fieldLink RX0 197 "ArbitrationFees$RingFinder" "row" "[I") ∈ gW := gW_of (tb_2 (List.mem_of_getElem? (i := 14) (by decide +kernel))) (by decide +kernel)
theorem fX0_197 : xFl RX0 197 5 1 (.array .int) true := ⟨RX5, TX5, 3, tyX5, rfl, inX5, by decide, w_fieldLink_RX0_197_ArbitrationFees_RingFinder_row_I_, rfl, tyX5_ok, nmX5, rfl, by decide +kernel⟩
theorem wc_X5_memberAfter : (Cond.code yX5_memberAfter cX5_memberAfter 2 (some .int)) ∈ gW := gW_of (tb_2 (List.mem_of_getElem? (i := 203) (by decide +kernel))) (by decide +kernel)
theorem pd_X5_memberAfter : yX5_memberAfter.cls ≠ "java/lang/invoke/MethodHandle" ∧ yX5_memberAfter.cls ≠ "java/lang/invoke/VarHandle" ∧ (parseMethodDescriptor yX5_memberAfter.desc).map (fun d => d.parameters.length) = some 1 := ⟨by decide, by decide, by decide +kernel⟩
theorem wm_X0_200 : (Cond.methodLink RX0 200 yX5_memberAfter) ∈ gW := gW_of (tb_2 (List.mem_of_getElem? (i := 200) (by decide +kernel))) (by decide +kernel)
theorem wi_X5_memberAfter : (Cond.instanceMethod yX5_memberAfter) ∈ gW := gW_of (tb_2 (List.mem_of_getElem? (i := 201) (by decide +kernel))) (by decide +kernel)
theorem ws_X5_memberAfter : (Cond.selects yX5_memberAfter.cls yX5_memberAfter yX5_memberAfter) ∈ gW := gW_of (tb_2 (List.mem_of_getElem? (i := 202) (by decide +kernel))) (by decide +kernel)
theorem kX0_200 : xVk RX0 200 yX5_memberAfter cX5_memberAfter 2 (some .int) 1 5 := ⟨wm_X0_200, wi_X5_memberAfter, ws_X5_memberAfter, wz_X5, wc_X5_memberAfter, pd_X5_memberAfter, TX5, 3, rfl⟩
theorem w_fieldLink_RX0_190_ArbitrationFees_RingFinder_length_I_ : (Cond.fieldLink RX0 190 "ArbitrationFees$RingFinder" "length" "I") ∈ gW := gW_of (tb_2 (List.mem_of_getElem? (i := 11) (by decide +kernel))) (by decide +kernel)
theorem fX0_190 : xFl RX0 190 5 0 .int false := ⟨RX5, TX5, 3, tyX5, rfl, inX5, by decide, w_fieldLink_RX0_190_ArbitrationFees_RingFinder_length_I_, rfl, tyX5_ok, nmX5, rfl, by decide +kernel⟩
theorem wc_X5_findFirst : (Cond.code yX5_findFirst cX5_findFirst 4 none) ∈ gW := gW_of (tb_2 (List.mem_of_getElem? (i := 185) (by decide +kernel))) (by decide +kernel)
theorem pd_X5_findFirst : yX5_findFirst.cls ≠ "java/lang/invoke/MethodHandle" ∧ yX5_findFirst.cls ≠ "java/lang/invoke/VarHandle" ∧ (parseMethodDescriptor yX5_findFirst.desc).map (fun d => d.parameters.length) = some 1 := ⟨by decide, by decide, by decide +kernel⟩
theorem wm_X0_185 : (Cond.methodLink RX0 185 yX5_findFirst) ∈ gW := gW_of (tb_2 (List.mem_of_getElem? (i := 182) (by decide +kernel))) (by decide +kernel)
theorem wi_X5_findFirst : (Cond.instanceMethod yX5_findFirst) ∈ gW := gW_of (tb_2 (List.mem_of_getElem? (i := 183) (by decide +kernel))) (by decide +kernel)
theorem ws_X5_findFirst : (Cond.selects yX5_findFirst.cls yX5_findFirst yX5_findFirst) ∈ gW := gW_of (tb_2 (List.mem_of_getElem? (i := 184) (by decide +kernel))) (by decide +kernel)
theorem kX0_185 : xVk RX0 185 yX5_findFirst cX5_findFirst 4 none 1 5 := ⟨wm_X0_185, wi_X5_findFirst, ws_X5_findFirst, wz_X5, wc_X5_findFirst, pd_X5_findFirst, TX5, 3, rfl⟩
theorem wc_X0_clearRing : (Cond.code yX0_clearRing cX0_clearRing 5 (some .long)) ∈ gW := gW_of (tb_2 (List.mem_of_getElem? (i := 199) (by decide +kernel))) (by decide +kernel)
theorem pd_X0_clearRing : yX0_clearRing.cls ≠ "java/lang/invoke/MethodHandle" ∧ yX0_clearRing.cls ≠ "java/lang/invoke/VarHandle" ∧ (parseMethodDescriptor yX0_clearRing.desc).map (fun d => d.parameters.length) = some 1 := ⟨by decide, by decide, by decide +kernel⟩
theorem wm_X0_193 : (Cond.methodLink RX0 193 yX0_clearRing) ∈ gW := gW_of (tb_2 (List.mem_of_getElem? (i := 196) (by decide +kernel))) (by decide +kernel)
theorem wi_X0_clearRing : (Cond.instanceMethod yX0_clearRing) ∈ gW := gW_of (tb_2 (List.mem_of_getElem? (i := 198) (by decide +kernel))) (by decide +kernel)
theorem ws_X0_clearRing : (Cond.selects yX0_clearRing.cls yX0_clearRing yX0_clearRing) ∈ gW := gW_of (tb_sel (List.mem_of_getElem? (i := 5) (by decide +kernel))) (by decide +kernel)
theorem kX0_193 : xVk RX0 193 yX0_clearRing cX0_clearRing 5 (some .long) 1 0 := ⟨wm_X0_193, wi_X0_clearRing, ws_X0_clearRing, wz_X0, wc_X0_clearRing, pd_X0_clearRing, TX0, 8, rfl⟩
theorem w_constantLong_RX2_56_3600000 : (Cond.constantLong RX2 56 3600000) ∈ gW := gW_of (tb_5 (List.mem_of_getElem? (i := 32) (by decide +kernel))) (by decide +kernel)
theorem wc_X2_addInterest : (Cond.code yX2_addInterest cX2_addInterest 10 (some .long)) ∈ gW := gW_of (tb_5 (List.mem_of_getElem? (i := 53) (by decide +kernel))) (by decide +kernel)
theorem pd_X2_addInterest : yX2_addInterest.cls ≠ "java/lang/invoke/MethodHandle" ∧ yX2_addInterest.cls ≠ "java/lang/invoke/VarHandle" ∧ (parseMethodDescriptor yX2_addInterest.desc).map (fun d => d.parameters.length) = some 2 := ⟨by decide, by decide, by decide +kernel⟩
theorem wm_X0_203 : (Cond.methodLink RX0 203 yX2_addInterest) ∈ gW := gW_of (tb_5 (List.mem_of_getElem? (i := 50) (by decide +kernel))) (by decide +kernel)
theorem wi_X2_addInterest : (Cond.instanceMethod yX2_addInterest) ∈ gW := gW_of (tb_5 (List.mem_of_getElem? (i := 51) (by decide +kernel))) (by decide +kernel)
theorem ws_X2_addInterest : (Cond.selects yX2_addInterest.cls yX2_addInterest yX2_addInterest) ∈ gW := gW_of (tb_5 (List.mem_of_getElem? (i := 52) (by decide +kernel))) (by decide +kernel)
theorem kX0_203 : xVk RX0 203 yX2_addInterest cX2_addInterest 10 (some .long) 2 2 := ⟨wm_X0_203, wi_X2_addInterest, ws_X2_addInterest, wz_X2, wc_X2_addInterest, pd_X2_addInterest, TX2, 6, rfl⟩
theorem w_fieldLink_RX0_227_ArbitrationFees_Claims_amounts_I_ : (Cond.fieldLink RX0 227 "ArbitrationFees$Claims" "amounts" "[I") ∈ gW := gW_of (tb_1 (List.mem_of_getElem? (i := 88) (by decide +kernel))) (by decide +kernel)
theorem fX0_227 : xFl RX0 227 1 3 (.array .int) true := ⟨RX1, TX1, 7, tyX1, rfl, inX1, by decide, w_fieldLink_RX0_227_ArbitrationFees_Claims_amounts_I_, rfl, tyX1_ok, nmX1, rfl, by decide +kernel⟩
theorem wm_X4_55 : (Cond.methodLink RX4 55 yX4_heldFor) ∈ gW := gW_of (tb_3 (List.mem_of_getElem? (i := 209) (by decide +kernel))) (by decide +kernel)
theorem kX4_55 : xVk RX4 55 yX4_heldFor cX4_heldFor 2 (some .long) 1 4 := ⟨wm_X4_55, wi_X4_heldFor, ws_X4_heldFor, wz_X4, wc_X4_heldFor, pd_X4_heldFor, TX4, 7, rfl⟩
theorem wm_X4_59 : (Cond.methodLink RX4 59 yX4_shortOf) ∈ gW := gW_of (tb_3 (List.mem_of_getElem? (i := 210) (by decide +kernel))) (by decide +kernel)
theorem kX4_59 : xVk RX4 59 yX4_shortOf cX4_shortOf 2 (some .long) 1 4 := ⟨wm_X4_59, wi_X4_shortOf, ws_X4_shortOf, wz_X4, wc_X4_shortOf, pd_X4_shortOf, TX4, 7, rfl⟩
theorem wc_X2_allOwedBy : (Cond.code yX2_allOwedBy cX2_allOwedBy 5 (some .long)) ∈ gW := gW_of (tb_3 (List.mem_of_getElem? (i := 200) (by decide +kernel))) (by decide +kernel)
theorem pd_X2_allOwedBy : yX2_allOwedBy.cls ≠ "java/lang/invoke/MethodHandle" ∧ yX2_allOwedBy.cls ≠ "java/lang/invoke/VarHandle" ∧ (parseMethodDescriptor yX2_allOwedBy.desc).map (fun d => d.parameters.length) = some 1 := ⟨by decide, by decide, by decide +kernel⟩
theorem wm_X0_241 : (Cond.methodLink RX0 241 yX2_allOwedBy) ∈ gW := gW_of (tb_3 (List.mem_of_getElem? (i := 197) (by decide +kernel))) (by decide +kernel)
theorem wi_X2_allOwedBy : (Cond.instanceMethod yX2_allOwedBy) ∈ gW := gW_of (tb_3 (List.mem_of_getElem? (i := 198) (by decide +kernel))) (by decide +kernel)
theorem ws_X2_allOwedBy : (Cond.selects yX2_allOwedBy.cls yX2_allOwedBy yX2_allOwedBy) ∈ gW := gW_of (tb_3 (List.mem_of_getElem? (i := 199) (by decide +kernel))) (by decide +kernel)
theorem kX0_241 : xVk RX0 241 yX2_allOwedBy cX2_allOwedBy 5 (some .long) 1 2 := ⟨wm_X0_241, wi_X2_allOwedBy, ws_X2_allOwedBy, wz_X2, wc_X2_allOwedBy, pd_X2_allOwedBy, TX2, 6, rfl⟩
theorem wc_X2_allOwedTo : (Cond.code yX2_allOwedTo cX2_allOwedTo 5 (some .long)) ∈ gW := gW_of (tb_3 (List.mem_of_getElem? (i := 204) (by decide +kernel))) (by decide +kernel)
theorem pd_X2_allOwedTo : yX2_allOwedTo.cls ≠ "java/lang/invoke/MethodHandle" ∧ yX2_allOwedTo.cls ≠ "java/lang/invoke/VarHandle" ∧ (parseMethodDescriptor yX2_allOwedTo.desc).map (fun d => d.parameters.length) = some 1 := ⟨by decide, by decide, by decide +kernel⟩
theorem wm_X0_244 : (Cond.methodLink RX0 244 yX2_allOwedTo) ∈ gW := gW_of (tb_3 (List.mem_of_getElem? (i := 201) (by decide +kernel))) (by decide +kernel)
theorem wi_X2_allOwedTo : (Cond.instanceMethod yX2_allOwedTo) ∈ gW := gW_of (tb_3 (List.mem_of_getElem? (i := 202) (by decide +kernel))) (by decide +kernel)
theorem ws_X2_allOwedTo : (Cond.selects yX2_allOwedTo.cls yX2_allOwedTo yX2_allOwedTo) ∈ gW := gW_of (tb_3 (List.mem_of_getElem? (i := 203) (by decide +kernel))) (by decide +kernel)
theorem kX0_244 : xVk RX0 244 yX2_allOwedTo cX2_allOwedTo 5 (some .long) 1 2 := ⟨wm_X0_244, wi_X2_allOwedTo, ws_X2_allOwedTo, wz_X2, wc_X2_allOwedTo, pd_X2_allOwedTo, TX2, 6, rfl⟩
theorem wc_X4_numberOf : (Cond.code yX4_numberOf cX4_numberOf 3 (some .long)) ∈ gW := gW_of (tb_3 (List.mem_of_getElem? (i := 208) (by decide +kernel))) (by decide +kernel)
theorem pd_X4_numberOf : yX4_numberOf.cls ≠ "java/lang/invoke/MethodHandle" ∧ yX4_numberOf.cls ≠ "java/lang/invoke/VarHandle" ∧ (parseMethodDescriptor yX4_numberOf.desc).map (fun d => d.parameters.length) = some 2 := ⟨by decide, by decide, by decide +kernel⟩
theorem wm_X0_247 : (Cond.methodLink RX0 247 yX4_numberOf) ∈ gW := gW_of (tb_3 (List.mem_of_getElem? (i := 205) (by decide +kernel))) (by decide +kernel)
theorem wi_X4_numberOf : (Cond.instanceMethod yX4_numberOf) ∈ gW := gW_of (tb_3 (List.mem_of_getElem? (i := 206) (by decide +kernel))) (by decide +kernel)
theorem ws_X4_numberOf : (Cond.selects yX4_numberOf.cls yX4_numberOf yX4_numberOf) ∈ gW := gW_of (tb_3 (List.mem_of_getElem? (i := 207) (by decide +kernel))) (by decide +kernel)
theorem kX0_247 : xVk RX0 247 yX4_numberOf cX4_numberOf 3 (some .long) 2 4 := ⟨wm_X0_247, wi_X4_numberOf, ws_X4_numberOf, wz_X4, wc_X4_numberOf, pd_X4_numberOf, TX4, 7, rfl⟩
theorem wc_X4_countOn : (Cond.code yX4_countOn cX4_countOn 4 (some .int)) ∈ gW := gW_of (tb_4 (List.mem_of_getElem? (i := 128) (by decide +kernel))) (by decide +kernel)
theorem pd_X4_countOn : yX4_countOn.cls ≠ "java/lang/invoke/MethodHandle" ∧ yX4_countOn.cls ≠ "java/lang/invoke/VarHandle" ∧ (parseMethodDescriptor yX4_countOn.desc).map (fun d => d.parameters.length) = some 1 := ⟨by decide, by decide, by decide +kernel⟩
theorem wm_X0_250 : (Cond.methodLink RX0 250 yX4_countOn) ∈ gW := gW_of (tb_4 (List.mem_of_getElem? (i := 125) (by decide +kernel))) (by decide +kernel)
theorem wi_X4_countOn : (Cond.instanceMethod yX4_countOn) ∈ gW := gW_of (tb_4 (List.mem_of_getElem? (i := 126) (by decide +kernel))) (by decide +kernel)
theorem ws_X4_countOn : (Cond.selects yX4_countOn.cls yX4_countOn yX4_countOn) ∈ gW := gW_of (tb_4 (List.mem_of_getElem? (i := 127) (by decide +kernel))) (by decide +kernel)
theorem kX0_250 : xVk RX0 250 yX4_countOn cX4_countOn 4 (some .int) 1 4 := ⟨wm_X0_250, wi_X4_countOn, ws_X4_countOn, wz_X4, wc_X4_countOn, pd_X4_countOn, TX4, 7, rfl⟩
theorem wm_X0_253 : (Cond.methodLink RX0 253 yX4_weightOn) ∈ gW := gW_of (tb_4 (List.mem_of_getElem? (i := 129) (by decide +kernel))) (by decide +kernel)
theorem kX0_253 : xVk RX0 253 yX4_weightOn cX4_weightOn 4 (some .int) 1 4 := ⟨wm_X0_253, wi_X4_weightOn, ws_X4_weightOn, wz_X4, wc_X4_weightOn, pd_X4_weightOn, TX4, 7, rfl⟩
theorem wm_X4_62 : (Cond.methodLink RX4 62 yX4_numberOf) ∈ gW := gW_of (tb_5 (List.mem_of_getElem? (i := 88) (by decide +kernel))) (by decide +kernel)
theorem kX4_62 : xVk RX4 62 yX4_numberOf cX4_numberOf 3 (some .long) 2 4 := ⟨wm_X4_62, wi_X4_numberOf, ws_X4_numberOf, wz_X4, wc_X4_numberOf, pd_X4_numberOf, TX4, 7, rfl⟩
theorem wm_X1_40 : (Cond.methodLink RX1 40 yX1_leftOf) ∈ gW := gW_of (tb_4 (List.mem_of_getElem? (i := 72) (by decide +kernel))) (by decide +kernel)
theorem kX1_40 : xVk RX1 40 yX1_leftOf cX1_leftOf 2 (some .int) 1 1 := ⟨wm_X1_40, wi_X1_leftOf, ws_X1_leftOf, wz_X1, wc_X1_leftOf, pd_X1_leftOf, TX1, 7, rfl⟩
theorem wc_X2_allOwed : (Cond.code yX2_allOwed cX2_allOwed 4 (some .long)) ∈ gW := gW_of (tb_5 (List.mem_of_getElem? (i := 83) (by decide +kernel))) (by decide +kernel)
theorem pd_X2_allOwed : yX2_allOwed.cls ≠ "java/lang/invoke/MethodHandle" ∧ yX2_allOwed.cls ≠ "java/lang/invoke/VarHandle" ∧ (parseMethodDescriptor yX2_allOwed.desc).map (fun d => d.parameters.length) = some 0 := ⟨by decide, by decide, by decide +kernel⟩
theorem wm_X0_256 : (Cond.methodLink RX0 256 yX2_allOwed) ∈ gW := gW_of (tb_5 (List.mem_of_getElem? (i := 80) (by decide +kernel))) (by decide +kernel)
theorem wi_X2_allOwed : (Cond.instanceMethod yX2_allOwed) ∈ gW := gW_of (tb_5 (List.mem_of_getElem? (i := 81) (by decide +kernel))) (by decide +kernel)
theorem ws_X2_allOwed : (Cond.selects yX2_allOwed.cls yX2_allOwed yX2_allOwed) ∈ gW := gW_of (tb_5 (List.mem_of_getElem? (i := 82) (by decide +kernel))) (by decide +kernel)
theorem kX0_256 : xVk RX0 256 yX2_allOwed cX2_allOwed 4 (some .long) 0 2 := ⟨wm_X0_256, wi_X2_allOwed, ws_X2_allOwed, wz_X2, wc_X2_allOwed, pd_X2_allOwed, TX2, 6, rfl⟩
theorem wc_X4_totalOf : (Cond.code yX4_totalOf cX4_totalOf 5 (some .long)) ∈ gW := gW_of (tb_5 (List.mem_of_getElem? (i := 87) (by decide +kernel))) (by decide +kernel)
theorem pd_X4_totalOf : yX4_totalOf.cls ≠ "java/lang/invoke/MethodHandle" ∧ yX4_totalOf.cls ≠ "java/lang/invoke/VarHandle" ∧ (parseMethodDescriptor yX4_totalOf.desc).map (fun d => d.parameters.length) = some 1 := ⟨by decide, by decide, by decide +kernel⟩
theorem wm_X0_259 : (Cond.methodLink RX0 259 yX4_totalOf) ∈ gW := gW_of (tb_5 (List.mem_of_getElem? (i := 84) (by decide +kernel))) (by decide +kernel)
theorem wi_X4_totalOf : (Cond.instanceMethod yX4_totalOf) ∈ gW := gW_of (tb_5 (List.mem_of_getElem? (i := 85) (by decide +kernel))) (by decide +kernel)
theorem ws_X4_totalOf : (Cond.selects yX4_totalOf.cls yX4_totalOf yX4_totalOf) ∈ gW := gW_of (tb_5 (List.mem_of_getElem? (i := 86) (by decide +kernel))) (by decide +kernel)
theorem kX0_259 : xVk RX0 259 yX4_totalOf cX4_totalOf 5 (some .long) 1 4 := ⟨wm_X0_259, wi_X4_totalOf, ws_X4_totalOf, wz_X4, wc_X4_totalOf, pd_X4_totalOf, TX4, 7, rfl⟩
theorem wc_X1_allLeft : (Cond.code yX1_allLeft cX1_allLeft 4 (some .long)) ∈ gW := gW_of (tb_5 (List.mem_of_getElem? (i := 92) (by decide +kernel))) (by decide +kernel)
theorem pd_X1_allLeft : yX1_allLeft.cls ≠ "java/lang/invoke/MethodHandle" ∧ yX1_allLeft.cls ≠ "java/lang/invoke/VarHandle" ∧ (parseMethodDescriptor yX1_allLeft.desc).map (fun d => d.parameters.length) = some 0 := ⟨by decide, by decide, by decide +kernel⟩
theorem wm_X0_262 : (Cond.methodLink RX0 262 yX1_allLeft) ∈ gW := gW_of (tb_5 (List.mem_of_getElem? (i := 89) (by decide +kernel))) (by decide +kernel)
theorem wi_X1_allLeft : (Cond.instanceMethod yX1_allLeft) ∈ gW := gW_of (tb_5 (List.mem_of_getElem? (i := 90) (by decide +kernel))) (by decide +kernel)
theorem ws_X1_allLeft : (Cond.selects yX1_allLeft.cls yX1_allLeft yX1_allLeft) ∈ gW := gW_of (tb_5 (List.mem_of_getElem? (i := 91) (by decide +kernel))) (by decide +kernel)
theorem kX0_262 : xVk RX0 262 yX1_allLeft cX1_allLeft 4 (some .long) 0 1 := ⟨wm_X0_262, wi_X1_allLeft, ws_X1_allLeft, wz_X1, wc_X1_allLeft, pd_X1_allLeft, TX1, 7, rfl⟩
theorem w_fieldLink_RX1_15_ArbitrationFees_Claims_claimants_I_ : (Cond.fieldLink RX1 15 "ArbitrationFees$Claims" "claimants" "[I") ∈ gW := gW_of (tb_1 (List.mem_of_getElem? (i := 83) (by decide +kernel))) (by decide +kernel)
theorem fX1_15 : xFl RX1 15 1 1 (.array .int) true := ⟨RX1, TX1, 7, tyX1, rfl, inX1, by decide, w_fieldLink_RX1_15_ArbitrationFees_Claims_claimants_I_, rfl, tyX1_ok, nmX1, rfl, by decide +kernel⟩
theorem w_fieldLink_RX1_19_ArbitrationFees_Claims_against_I_ : (Cond.fieldLink RX1 19 "ArbitrationFees$Claims" "against" "[I") ∈ gW := gW_of (tb_1 (List.mem_of_getElem? (i := 85) (by decide +kernel))) (by decide +kernel)
theorem fX1_19 : xFl RX1 19 1 2 (.array .int) true := ⟨RX1, TX1, 7, tyX1, rfl, inX1, by decide, w_fieldLink_RX1_19_ArbitrationFees_Claims_against_I_, rfl, tyX1_ok, nmX1, rfl, by decide +kernel⟩
theorem w_constantLong_RX2_58_3651 : (Cond.constantLong RX2 58 3651) ∈ gW := gW_of (tb_5 (List.mem_of_getElem? (i := 31) (by decide +kernel))) (by decide +kernel)
theorem w_fieldLink_RX6_9_ArbitrationFees_Text_length_I_ : (Cond.fieldLink RX6 9 "ArbitrationFees$Text" "length" "I") ∈ gW := gW_of (tb_1 (List.mem_of_getElem? (i := 208) (by decide +kernel))) (by decide +kernel)
theorem fX6_9 : xFl RX6 9 6 0 .int false := ⟨RX6, TX6, 9, tyX6, rfl, inX6, by decide, w_fieldLink_RX6_9_ArbitrationFees_Text_length_I_, rfl, tyX6_ok, nmX6, rfl, by decide +kernel⟩
theorem w_fieldLink_RX6_15_ArbitrationFees_Text_characters_C_ : (Cond.fieldLink RX6 15 "ArbitrationFees$Text" "characters" "[C") ∈ gW := gW_of (tb_1 (List.mem_of_getElem? (i := 210) (by decide +kernel))) (by decide +kernel)
theorem fX6_15 : xFl RX6 15 6 1 (.array .char) true := ⟨RX6, TX6, 9, tyX6, rfl, inX6, by decide, w_fieldLink_RX6_15_ArbitrationFees_Text_characters_C_, rfl, tyX6_ok, nmX6, rfl, by decide +kernel⟩
theorem w_fieldLink_RX6_19_ArbitrationFees_Text_position_I_ : (Cond.fieldLink RX6 19 "ArbitrationFees$Text" "position" "I") ∈ gW := gW_of (tb_1 (List.mem_of_getElem? (i := 211) (by decide +kernel))) (by decide +kernel)
theorem fX6_19 : xFl RX6 19 6 2 .int false := ⟨RX6, TX6, 9, tyX6, rfl, inX6, by decide, w_fieldLink_RX6_19_ArbitrationFees_Text_position_I_, rfl, tyX6_ok, nmX6, rfl, by decide +kernel⟩
theorem wz_X6 : (Cond.initialized RX6) ∈ gW := gW_of (tb_1 (List.mem_of_getElem? (i := 7) (by decide +kernel))) (by decide +kernel)
theorem wc_X6_signAhead : (Cond.code yX6_signAhead cX6_signAhead 1 (some .int)) ∈ gW := gW_of (tb_5 (List.mem_of_getElem? (i := 167) (by decide +kernel))) (by decide +kernel)
theorem pd_X6_signAhead : yX6_signAhead.cls ≠ "java/lang/invoke/MethodHandle" ∧ yX6_signAhead.cls ≠ "java/lang/invoke/VarHandle" ∧ (parseMethodDescriptor yX6_signAhead.desc).map (fun d => d.parameters.length) = some 0 := ⟨by decide, by decide, by decide +kernel⟩
theorem wm_X6_46 : (Cond.methodLink RX6 46 yX6_signAhead) ∈ gW := gW_of (tb_5 (List.mem_of_getElem? (i := 164) (by decide +kernel))) (by decide +kernel)
theorem wi_X6_signAhead : (Cond.instanceMethod yX6_signAhead) ∈ gW := gW_of (tb_5 (List.mem_of_getElem? (i := 166) (by decide +kernel))) (by decide +kernel)
theorem ws_X6_signAhead : (Cond.selects yX6_signAhead.cls yX6_signAhead yX6_signAhead) ∈ gW := gW_of (tb_sel (List.mem_of_getElem? (i := 14) (by decide +kernel))) (by decide +kernel)
theorem kX6_46 : xVk RX6 46 yX6_signAhead cX6_signAhead 1 (some .int) 0 6 := ⟨wm_X6_46, wi_X6_signAhead, ws_X6_signAhead, wz_X6, wc_X6_signAhead, pd_X6_signAhead, TX6, 9, rfl⟩
theorem kX6_61 : xNk RX6 61 yX7_isWithin cX7_isWithin 3 (some .boolean) 3 := ⟨by decide, wt_X7_isWithin, wz_X7, wc_X7_isWithin, pd_X7_isWithin⟩
theorem w_fieldLink_RX6_22_ArbitrationFees_Text_isRight_Z_ : (Cond.fieldLink RX6 22 "ArbitrationFees$Text" "isRight" "Z") ∈ gW := gW_of (tb_1 (List.mem_of_getElem? (i := 213) (by decide +kernel))) (by decide +kernel)
theorem fX6_22 : xFl RX6 22 6 3 .boolean false := ⟨RX6, TX6, 9, tyX6, rfl, inX6, by decide, w_fieldLink_RX6_22_ArbitrationFees_Text_isRight_Z_, rfl, tyX6_ok, nmX6, rfl, by decide +kernel⟩
theorem wc_X6_isDigitAhead : (Cond.code yX6_isDigitAhead cX6_isDigitAhead 1 (some .boolean)) ∈ gW := gW_of (tb_5 (List.mem_of_getElem? (i := 178) (by decide +kernel))) (by decide +kernel)
theorem pd_X6_isDigitAhead : yX6_isDigitAhead.cls ≠ "java/lang/invoke/MethodHandle" ∧ yX6_isDigitAhead.cls ≠ "java/lang/invoke/VarHandle" ∧ (parseMethodDescriptor yX6_isDigitAhead.desc).map (fun d => d.parameters.length) = some 0 := ⟨by decide, by decide, by decide +kernel⟩
theorem wm_X6_65 : (Cond.methodLink RX6 65 yX6_isDigitAhead) ∈ gW := gW_of (tb_5 (List.mem_of_getElem? (i := 175) (by decide +kernel))) (by decide +kernel)
theorem wi_X6_isDigitAhead : (Cond.instanceMethod yX6_isDigitAhead) ∈ gW := gW_of (tb_5 (List.mem_of_getElem? (i := 177) (by decide +kernel))) (by decide +kernel)
theorem ws_X6_isDigitAhead : (Cond.selects yX6_isDigitAhead.cls yX6_isDigitAhead yX6_isDigitAhead) ∈ gW := gW_of (tb_sel (List.mem_of_getElem? (i := 16) (by decide +kernel))) (by decide +kernel)
theorem kX6_65 : xVk RX6 65 yX6_isDigitAhead cX6_isDigitAhead 1 (some .boolean) 0 6 := ⟨wm_X6_65, wi_X6_isDigitAhead, ws_X6_isDigitAhead, wz_X6, wc_X6_isDigitAhead, pd_X6_isDigitAhead, TX6, 9, rfl⟩
theorem w_fieldLink_RX6_29_ArbitrationFees_Text_kinds_I_ : (Cond.fieldLink RX6 29 "ArbitrationFees$Text" "kinds" "[I") ∈ gW := gW_of (tb_1 (List.mem_of_getElem? (i := 216) (by decide +kernel))) (by decide +kernel)
theorem fX6_29 : xFl RX6 29 6 5 (.array .int) true := ⟨RX6, TX6, 9, tyX6, rfl, inX6, by decide, w_fieldLink_RX6_29_ArbitrationFees_Text_kinds_I_, rfl, tyX6_ok, nmX6, rfl, by decide +kernel⟩
theorem wc_X6_isKind : (Cond.code yX6_isKind cX6_isKind 1 (some .boolean)) ∈ gW := gW_of (tb_5 (List.mem_of_getElem? (i := 170) (by decide +kernel))) (by decide +kernel)
theorem pd_X6_isKind : yX6_isKind.cls ≠ "java/lang/invoke/MethodHandle" ∧ yX6_isKind.cls ≠ "java/lang/invoke/VarHandle" ∧ (parseMethodDescriptor yX6_isKind.desc).map (fun d => d.parameters.length) = some 1 := ⟨by decide, by decide, by decide +kernel⟩
theorem wm_X6_50 : (Cond.methodLink RX6 50 yX6_isKind) ∈ gW := gW_of (tb_5 (List.mem_of_getElem? (i := 168) (by decide +kernel))) (by decide +kernel)
theorem wt_X6_isKind : (Cond.static yX6_isKind) ∈ gW := gW_of (tb_5 (List.mem_of_getElem? (i := 169) (by decide +kernel))) (by decide +kernel)
theorem kX6_50 : xSk RX6 50 yX6_isKind cX6_isKind 1 (some .boolean) 1 := ⟨wm_X6_50, wt_X6_isKind, wz_X6, wc_X6_isKind, pd_X6_isKind⟩
theorem wc_X6_takeSign : (Cond.code yX6_takeSign cX6_takeSign 2 none) ∈ gW := gW_of (tb_5 (List.mem_of_getElem? (i := 183) (by decide +kernel))) (by decide +kernel)
theorem pd_X6_takeSign : yX6_takeSign.cls ≠ "java/lang/invoke/MethodHandle" ∧ yX6_takeSign.cls ≠ "java/lang/invoke/VarHandle" ∧ (parseMethodDescriptor yX6_takeSign.desc).map (fun d => d.parameters.length) = some 1 := ⟨by decide, by decide, by decide +kernel⟩
theorem wm_X6_58 : (Cond.methodLink RX6 58 yX6_takeSign) ∈ gW := gW_of (tb_5 (List.mem_of_getElem? (i := 180) (by decide +kernel))) (by decide +kernel)
theorem wi_X6_takeSign : (Cond.instanceMethod yX6_takeSign) ∈ gW := gW_of (tb_5 (List.mem_of_getElem? (i := 182) (by decide +kernel))) (by decide +kernel)
theorem ws_X6_takeSign : (Cond.selects yX6_takeSign.cls yX6_takeSign yX6_takeSign) ∈ gW := gW_of (tb_sel (List.mem_of_getElem? (i := 17) (by decide +kernel))) (by decide +kernel)
theorem kX6_58 : xVk RX6 58 yX6_takeSign cX6_takeSign 2 none 1 6 := ⟨wm_X6_58, wi_X6_takeSign, ws_X6_takeSign, wz_X6, wc_X6_takeSign, pd_X6_takeSign, TX6, 9, rfl⟩
theorem w_fieldLink_RX6_36_ArbitrationFees_Text_seconds_I_ : (Cond.fieldLink RX6 36 "ArbitrationFees$Text" "seconds" "[I") ∈ gW := gW_of (tb_1 (List.mem_of_getElem? (i := 220) (by decide +kernel))) (by decide +kernel)
theorem fX6_36 : xFl RX6 36 6 7 (.array .int) true := ⟨RX6, TX6, 9, tyX6, rfl, inX6, by decide, w_fieldLink_RX6_36_ArbitrationFees_Text_seconds_I_, rfl, tyX6_ok, nmX6, rfl, by decide +kernel⟩
theorem wc_X6_takeNumber : (Cond.code yX6_takeNumber cX6_takeNumber 4 (some .int)) ∈ gW := gW_of (tb_5 (List.mem_of_getElem? (i := 174) (by decide +kernel))) (by decide +kernel)
theorem pd_X6_takeNumber : yX6_takeNumber.cls ≠ "java/lang/invoke/MethodHandle" ∧ yX6_takeNumber.cls ≠ "java/lang/invoke/VarHandle" ∧ (parseMethodDescriptor yX6_takeNumber.desc).map (fun d => d.parameters.length) = some 1 := ⟨by decide, by decide, by decide +kernel⟩
theorem wm_X6_54 : (Cond.methodLink RX6 54 yX6_takeNumber) ∈ gW := gW_of (tb_5 (List.mem_of_getElem? (i := 171) (by decide +kernel))) (by decide +kernel)
theorem wi_X6_takeNumber : (Cond.instanceMethod yX6_takeNumber) ∈ gW := gW_of (tb_5 (List.mem_of_getElem? (i := 173) (by decide +kernel))) (by decide +kernel)
theorem ws_X6_takeNumber : (Cond.selects yX6_takeNumber.cls yX6_takeNumber yX6_takeNumber) ∈ gW := gW_of (tb_sel (List.mem_of_getElem? (i := 15) (by decide +kernel))) (by decide +kernel)
theorem kX6_54 : xVk RX6 54 yX6_takeNumber cX6_takeNumber 4 (some .int) 1 6 := ⟨wm_X6_54, wi_X6_takeNumber, ws_X6_takeNumber, wz_X6, wc_X6_takeNumber, pd_X6_takeNumber, TX6, 9, rfl⟩
theorem w_fieldLink_RX6_39_ArbitrationFees_Text_amounts_I_ : (Cond.fieldLink RX6 39 "ArbitrationFees$Text" "amounts" "[I") ∈ gW := gW_of (tb_1 (List.mem_of_getElem? (i := 222) (by decide +kernel))) (by decide +kernel)
theorem fX6_39 : xFl RX6 39 6 8 (.array .int) true := ⟨RX6, TX6, 9, tyX6, rfl, inX6, by decide, w_fieldLink_RX6_39_ArbitrationFees_Text_amounts_I_, rfl, tyX6_ok, nmX6, rfl, by decide +kernel⟩
theorem w_fieldLink_RX6_33_ArbitrationFees_Text_firsts_I_ : (Cond.fieldLink RX6 33 "ArbitrationFees$Text" "firsts" "[I") ∈ gW := gW_of (tb_1 (List.mem_of_getElem? (i := 218) (by decide +kernel))) (by decide +kernel)
theorem fX6_33 : xFl RX6 33 6 6 (.array .int) true := ⟨RX6, TX6, 9, tyX6, rfl, inX6, by decide, w_fieldLink_RX6_33_ArbitrationFees_Text_firsts_I_, rfl, tyX6_ok, nmX6, rfl, by decide +kernel⟩
theorem w_fieldLink_RX6_26_ArbitrationFees_Text_count_I_ : (Cond.fieldLink RX6 26 "ArbitrationFees$Text" "count" "I") ∈ gW := gW_of (tb_1 (List.mem_of_getElem? (i := 214) (by decide +kernel))) (by decide +kernel)
theorem fX6_26 : xFl RX6 26 6 4 .int false := ⟨RX6, TX6, 9, tyX6, rfl, inX6, by decide, w_fieldLink_RX6_26_ArbitrationFees_Text_count_I_, rfl, tyX6_ok, nmX6, rfl, by decide +kernel⟩
theorem wc_X6_parseCommand : (Cond.code yX6_parseCommand cX6_parseCommand 3 none) ∈ gW := gW_of (tb_5 (List.mem_of_getElem? (i := 163) (by decide +kernel))) (by decide +kernel)
theorem pd_X6_parseCommand : yX6_parseCommand.cls ≠ "java/lang/invoke/MethodHandle" ∧ yX6_parseCommand.cls ≠ "java/lang/invoke/VarHandle" ∧ (parseMethodDescriptor yX6_parseCommand.desc).map (fun d => d.parameters.length) = some 1 := ⟨by decide, by decide, by decide +kernel⟩
theorem wm_X6_42 : (Cond.methodLink RX6 42 yX6_parseCommand) ∈ gW := gW_of (tb_5 (List.mem_of_getElem? (i := 160) (by decide +kernel))) (by decide +kernel)
theorem wi_X6_parseCommand : (Cond.instanceMethod yX6_parseCommand) ∈ gW := gW_of (tb_5 (List.mem_of_getElem? (i := 162) (by decide +kernel))) (by decide +kernel)
theorem ws_X6_parseCommand : (Cond.selects yX6_parseCommand.cls yX6_parseCommand yX6_parseCommand) ∈ gW := gW_of (tb_sel (List.mem_of_getElem? (i := 13) (by decide +kernel))) (by decide +kernel)
theorem kX6_42 : xVk RX6 42 yX6_parseCommand cX6_parseCommand 3 none 1 6 := ⟨wm_X6_42, wi_X6_parseCommand, ws_X6_parseCommand, wz_X6, wc_X6_parseCommand, pd_X6_parseCommand, TX6, 9, rfl⟩
theorem w_fieldLink_RX7_10_ArbitrationFees_present_LArbitrationFees_Accounts_ : (Cond.fieldLink RX7 10 "ArbitrationFees" "present" "LArbitrationFees$Accounts;") ∈ gW := gW_of (tb_2 (List.mem_of_getElem? (i := 24) (by decide +kernel))) (by decide +kernel)
theorem fX7_10 : xFl RX7 10 7 0 (.object "ArbitrationFees$Accounts") true := ⟨RX7, TX7, 10, tyX7, rfl, inX7, by decide, w_fieldLink_RX7_10_ArbitrationFees_present_LArbitrationFees_Accounts_, rfl, tyX7_ok, nmX7, rfl, by decide +kernel⟩
theorem w_fieldLink_RX7_54_ArbitrationFees_Accounts_parties_LArbitrationFees_Parties_ : (Cond.fieldLink RX7 54 "ArbitrationFees$Accounts" "parties" "LArbitrationFees$Parties;") ∈ gW := gW_of (tb_1 (List.mem_of_getElem? (i := 170) (by decide +kernel))) (by decide +kernel)
theorem fX7_54 : xFl RX7 54 0 0 (.object "ArbitrationFees$Parties") true := ⟨RX0, TX0, 8, tyX0, rfl, inX0, by decide, w_fieldLink_RX7_54_ArbitrationFees_Accounts_parties_LArbitrationFees_Parties_, rfl, tyX0_ok, nmX0, rfl, by decide +kernel⟩
theorem w_fieldLink_RX7_58_ArbitrationFees_Parties_count_I_ : (Cond.fieldLink RX7 58 "ArbitrationFees$Parties" "count" "I") ∈ gW := gW_of (tb_1 (List.mem_of_getElem? (i := 45) (by decide +kernel))) (by decide +kernel)
theorem fX7_58 : xFl RX7 58 4 0 .int false := ⟨RX4, TX4, 7, tyX4, rfl, inX4, by decide, w_fieldLink_RX7_58_ArbitrationFees_Parties_count_I_, rfl, tyX4_ok, nmX4, rfl, by decide +kernel⟩
theorem wc_X0_reset : (Cond.code yX0_reset cX0_reset 1 none) ∈ gW := gW_of (tb_2 (List.mem_of_getElem? (i := 62) (by decide +kernel))) (by decide +kernel)
theorem pd_X0_reset : yX0_reset.cls ≠ "java/lang/invoke/MethodHandle" ∧ yX0_reset.cls ≠ "java/lang/invoke/VarHandle" ∧ (parseMethodDescriptor yX0_reset.desc).map (fun d => d.parameters.length) = some 0 := ⟨by decide, by decide, by decide +kernel⟩
theorem wm_X7_63 : (Cond.methodLink RX7 63 yX0_reset) ∈ gW := gW_of (tb_2 (List.mem_of_getElem? (i := 59) (by decide +kernel))) (by decide +kernel)
theorem wi_X0_reset : (Cond.instanceMethod yX0_reset) ∈ gW := gW_of (tb_2 (List.mem_of_getElem? (i := 60) (by decide +kernel))) (by decide +kernel)
theorem ws_X0_reset : (Cond.selects yX0_reset.cls yX0_reset yX0_reset) ∈ gW := gW_of (tb_2 (List.mem_of_getElem? (i := 61) (by decide +kernel))) (by decide +kernel)
theorem kX7_63 : xVk RX7 63 yX0_reset cX0_reset 1 none 0 0 := ⟨wm_X7_63, wi_X0_reset, ws_X0_reset, wz_X0, wc_X0_reset, pd_X0_reset, TX0, 8, rfl⟩
theorem w_fieldLink_RX7_45_ArbitrationFees_remembered_I_ : (Cond.fieldLink RX7 45 "ArbitrationFees" "remembered" "I") ∈ gW := gW_of (tb_2 (List.mem_of_getElem? (i := 31) (by decide +kernel))) (by decide +kernel)
theorem fX7_45 : xFl RX7 45 7 7 .int false := ⟨RX7, TX7, 10, tyX7, rfl, inX7, by decide, w_fieldLink_RX7_45_ArbitrationFees_remembered_I_, rfl, tyX7_ok, nmX7, rfl, by decide +kernel⟩
theorem w_fieldLink_RX7_41_ArbitrationFees_nextRow_I_ : (Cond.fieldLink RX7 41 "ArbitrationFees" "nextRow" "I") ∈ gW := gW_of (tb_2 (List.mem_of_getElem? (i := 30) (by decide +kernel))) (by decide +kernel)
theorem fX7_41 : xFl RX7 41 7 6 .int false := ⟨RX7, TX7, 10, tyX7, rfl, inX7, by decide, w_fieldLink_RX7_41_ArbitrationFees_nextRow_I_, rfl, tyX7_ok, nmX7, rfl, by decide +kernel⟩
theorem mw_X7_330 : xMmI RX7 330 := ⟨gW_of (tb_2 (List.mem_of_getElem? (i := 110) (by decide +kernel))) (by decide +kernel), gW_of (tb_2 (List.mem_of_getElem? (i := 111) (by decide +kernel))) (by decide +kernel), gW_of (tb_1 (List.mem_of_getElem? (i := 16) (by decide +kernel))) (by decide +kernel), gW_of (tb_2 (List.mem_of_getElem? (i := 112) (by decide +kernel))) (by decide +kernel)⟩
theorem w_fieldLink_RX7_19_ArbitrationFees_history_LArbitrationFees_Accounts_ : (Cond.fieldLink RX7 19 "ArbitrationFees" "history" "[LArbitrationFees$Accounts;") ∈ gW := gW_of (tb_2 (List.mem_of_getElem? (i := 26) (by decide +kernel))) (by decide +kernel)
theorem fX7_19 : xFl RX7 19 7 2 (.array (.object "ArbitrationFees$Accounts")) true := ⟨RX7, TX7, 10, tyX7, rfl, inX7, by decide, w_fieldLink_RX7_19_ArbitrationFees_history_LArbitrationFees_Accounts_, rfl, tyX7_ok, nmX7, rfl, by decide +kernel⟩
theorem wc_X0_copyFrom : (Cond.code yX0_copyFrom cX0_copyFrom 2 none) ∈ gW := gW_of (tb_2 (List.mem_of_getElem? (i := 85) (by decide +kernel))) (by decide +kernel)
theorem pd_X0_copyFrom : yX0_copyFrom.cls ≠ "java/lang/invoke/MethodHandle" ∧ yX0_copyFrom.cls ≠ "java/lang/invoke/VarHandle" ∧ (parseMethodDescriptor yX0_copyFrom.desc).map (fun d => d.parameters.length) = some 1 := ⟨by decide, by decide, by decide +kernel⟩
theorem wm_X7_314 : (Cond.methodLink RX7 314 yX0_copyFrom) ∈ gW := gW_of (tb_2 (List.mem_of_getElem? (i := 82) (by decide +kernel))) (by decide +kernel)
theorem wi_X0_copyFrom : (Cond.instanceMethod yX0_copyFrom) ∈ gW := gW_of (tb_2 (List.mem_of_getElem? (i := 83) (by decide +kernel))) (by decide +kernel)
theorem ws_X0_copyFrom : (Cond.selects yX0_copyFrom.cls yX0_copyFrom yX0_copyFrom) ∈ gW := gW_of (tb_2 (List.mem_of_getElem? (i := 84) (by decide +kernel))) (by decide +kernel)
theorem kX7_314 : xVk RX7 314 yX0_copyFrom cX0_copyFrom 2 none 1 0 := ⟨wm_X7_314, wi_X0_copyFrom, ws_X0_copyFrom, wz_X0, wc_X0_copyFrom, pd_X0_copyFrom, TX0, 8, rfl⟩
theorem wc_X7_keepRow : (Cond.code yX7_keepRow cX7_keepRow 1 none) ∈ gW := gW_of (tb_2 (List.mem_of_getElem? (i := 109) (by decide +kernel))) (by decide +kernel)
theorem pd_X7_keepRow : yX7_keepRow.cls ≠ "java/lang/invoke/MethodHandle" ∧ yX7_keepRow.cls ≠ "java/lang/invoke/VarHandle" ∧ (parseMethodDescriptor yX7_keepRow.desc).map (fun d => d.parameters.length) = some 0 := ⟨by decide, by decide, by decide +kernel⟩
theorem wm_X7_325 : (Cond.methodLink RX7 325 yX7_keepRow) ∈ gW := gW_of (tb_2 (List.mem_of_getElem? (i := 106) (by decide +kernel))) (by decide +kernel)
theorem wi_X7_keepRow : (Cond.instanceMethod yX7_keepRow) ∈ gW := gW_of (tb_2 (List.mem_of_getElem? (i := 108) (by decide +kernel))) (by decide +kernel)
theorem ws_X7_keepRow : (Cond.selects yX7_keepRow.cls yX7_keepRow yX7_keepRow) ∈ gW := gW_of (tb_sel (List.mem_of_getElem? (i := 1) (by decide +kernel))) (by decide +kernel)
theorem kX7_325 : xVk RX7 325 yX7_keepRow cX7_keepRow 1 none 0 7 := ⟨wm_X7_325, wi_X7_keepRow, ws_X7_keepRow, wz_X7, wc_X7_keepRow, pd_X7_keepRow, TX7, 10, rfl⟩
theorem wc_X7_isSide : (Cond.code yX7_isSide cX7_isSide 1 (some .boolean)) ∈ gW := gW_of (tb_3 (List.mem_of_getElem? (i := 0) (by decide +kernel))) (by decide +kernel)
theorem pd_X7_isSide : yX7_isSide.cls ≠ "java/lang/invoke/MethodHandle" ∧ yX7_isSide.cls ≠ "java/lang/invoke/VarHandle" ∧ (parseMethodDescriptor yX7_isSide.desc).map (fun d => d.parameters.length) = some 1 := ⟨by decide, by decide, by decide +kernel⟩
theorem wm_X7_66 : (Cond.methodLink RX7 66 yX7_isSide) ∈ gW := gW_of (tb_2 (List.mem_of_getElem? (i := 238) (by decide +kernel))) (by decide +kernel)
theorem wt_X7_isSide : (Cond.static yX7_isSide) ∈ gW := gW_of (tb_2 (List.mem_of_getElem? (i := 239) (by decide +kernel))) (by decide +kernel)
theorem kX7_66 : xSk RX7 66 yX7_isSide cX7_isSide 1 (some .boolean) 1 := ⟨wm_X7_66, wt_X7_isSide, wz_X7, wc_X7_isSide, pd_X7_isSide⟩
theorem w_classLink_RX7_74_java_lang_IllegalArgumentException_ : (Cond.classLink RX7 74 "java/lang/IllegalArgumentException") ∈ gW := gW_of (tb_3 (List.mem_of_getElem? (i := 4) (by decide +kernel))) (by decide +kernel)
theorem w_initialized_java_lang_IllegalArgumentException_ : (Cond.initialized "java/lang/IllegalArgumentException") ∈ gW := gW_of (tb_1 (List.mem_of_getElem? (i := 14) (by decide +kernel))) (by decide +kernel)
theorem w_methodLink_RX7_76_java_lang_IllegalArgumentException_init_V_ : (Cond.methodLink RX7 76 ⟨"java/lang/IllegalArgumentException", "<init>", "()V"⟩) ∈ gW := gW_of (tb_3 (List.mem_of_getElem? (i := 49) (by decide +kernel))) (by decide +kernel)
theorem tX7_74 : xTk RX7 74 76 2 := ⟨w_classLink_RX7_74_java_lang_IllegalArgumentException_, w_initialized_java_lang_IllegalArgumentException_, w_methodLink_RX7_76_java_lang_IllegalArgumentException_init_V_⟩
theorem wc_X7_remember : (Cond.code yX7_remember cX7_remember 1 none) ∈ gW := gW_of (tb_2 (List.mem_of_getElem? (i := 81) (by decide +kernel))) (by decide +kernel)
theorem pd_X7_remember : yX7_remember.cls ≠ "java/lang/invoke/MethodHandle" ∧ yX7_remember.cls ≠ "java/lang/invoke/VarHandle" ∧ (parseMethodDescriptor yX7_remember.desc).map (fun d => d.parameters.length) = some 0 := ⟨by decide, by decide, by decide +kernel⟩
theorem wm_X7_80 : (Cond.methodLink RX7 80 yX7_remember) ∈ gW := gW_of (tb_2 (List.mem_of_getElem? (i := 78) (by decide +kernel))) (by decide +kernel)
theorem wi_X7_remember : (Cond.instanceMethod yX7_remember) ∈ gW := gW_of (tb_2 (List.mem_of_getElem? (i := 80) (by decide +kernel))) (by decide +kernel)
theorem ws_X7_remember : (Cond.selects yX7_remember.cls yX7_remember yX7_remember) ∈ gW := gW_of (tb_sel (List.mem_of_getElem? (i := 0) (by decide +kernel))) (by decide +kernel)
theorem kX7_80 : xVk RX7 80 yX7_remember cX7_remember 1 none 0 7 := ⟨wm_X7_80, wi_X7_remember, ws_X7_remember, wz_X7, wc_X7_remember, pd_X7_remember, TX7, 10, rfl⟩
theorem wc_X4_addOne : (Cond.code yX4_addOne cX4_addOne 4 (some .int)) ∈ gW := gW_of (tb_3 (List.mem_of_getElem? (i := 90) (by decide +kernel))) (by decide +kernel)
theorem pd_X4_addOne : yX4_addOne.cls ≠ "java/lang/invoke/MethodHandle" ∧ yX4_addOne.cls ≠ "java/lang/invoke/VarHandle" ∧ (parseMethodDescriptor yX4_addOne.desc).map (fun d => d.parameters.length) = some 2 := ⟨by decide, by decide, by decide +kernel⟩
theorem wm_X7_83 : (Cond.methodLink RX7 83 yX4_addOne) ∈ gW := gW_of (tb_3 (List.mem_of_getElem? (i := 87) (by decide +kernel))) (by decide +kernel)
theorem wi_X4_addOne : (Cond.instanceMethod yX4_addOne) ∈ gW := gW_of (tb_3 (List.mem_of_getElem? (i := 88) (by decide +kernel))) (by decide +kernel)
theorem ws_X4_addOne : (Cond.selects yX4_addOne.cls yX4_addOne yX4_addOne) ∈ gW := gW_of (tb_3 (List.mem_of_getElem? (i := 89) (by decide +kernel))) (by decide +kernel)
theorem kX7_83 : xVk RX7 83 yX4_addOne cX4_addOne 4 (some .int) 2 4 := ⟨wm_X7_83, wi_X4_addOne, ws_X4_addOne, wz_X4, wc_X4_addOne, pd_X4_addOne, TX4, 7, rfl⟩
theorem w_classLink_RX7_77_java_lang_IllegalStateException_ : (Cond.classLink RX7 77 "java/lang/IllegalStateException") ∈ gW := gW_of (tb_3 (List.mem_of_getElem? (i := 72) (by decide +kernel))) (by decide +kernel)
theorem w_initialized_java_lang_IllegalStateException_ : (Cond.initialized "java/lang/IllegalStateException") ∈ gW := gW_of (tb_1 (List.mem_of_getElem? (i := 15) (by decide +kernel))) (by decide +kernel)
theorem w_methodLink_RX7_79_java_lang_IllegalStateException_init_V_ : (Cond.methodLink RX7 79 ⟨"java/lang/IllegalStateException", "<init>", "()V"⟩) ∈ gW := gW_of (tb_3 (List.mem_of_getElem? (i := 81) (by decide +kernel))) (by decide +kernel)
theorem tX7_77 : xTk RX7 77 79 3 := ⟨w_classLink_RX7_77_java_lang_IllegalStateException_, w_initialized_java_lang_IllegalStateException_, w_methodLink_RX7_79_java_lang_IllegalStateException_init_V_⟩
theorem w_fieldLink_RX7_48_ArbitrationFees_keptReason_I_ : (Cond.fieldLink RX7 48 "ArbitrationFees" "keptReason" "I") ∈ gW := gW_of (tb_2 (List.mem_of_getElem? (i := 32) (by decide +kernel))) (by decide +kernel)
theorem fX7_48 : xFl RX7 48 7 8 .int false := ⟨RX7, TX7, 10, tyX7, rfl, inX7, by decide, w_fieldLink_RX7_48_ArbitrationFees_keptReason_I_, rfl, tyX7_ok, nmX7, rfl, by decide +kernel⟩
theorem w_classLink_RX7_158_java_lang_IndexOutOfBoundsException_ : (Cond.classLink RX7 158 "java/lang/IndexOutOfBoundsException") ∈ gW := gW_of (tb_3 (List.mem_of_getElem? (i := 138) (by decide +kernel))) (by decide +kernel)
theorem w_initialized_java_lang_IndexOutOfBoundsException_ : (Cond.initialized "java/lang/IndexOutOfBoundsException") ∈ gW := gW_of (tb_1 (List.mem_of_getElem? (i := 17) (by decide +kernel))) (by decide +kernel)
theorem w_methodLink_RX7_160_java_lang_IndexOutOfBoundsException_init_V_ : (Cond.methodLink RX7 160 ⟨"java/lang/IndexOutOfBoundsException", "<init>", "()V"⟩) ∈ gW := gW_of (tb_3 (List.mem_of_getElem? (i := 147) (by decide +kernel))) (by decide +kernel)
theorem tX7_158 : xTk RX7 158 160 1 := ⟨w_classLink_RX7_158_java_lang_IndexOutOfBoundsException_, w_initialized_java_lang_IndexOutOfBoundsException_, w_methodLink_RX7_160_java_lang_IndexOutOfBoundsException_init_V_⟩
theorem wc_X7_keepReason : (Cond.code yX7_keepReason cX7_keepReason 2 none) ∈ gW := gW_of (tb_3 (List.mem_of_getElem? (i := 156) (by decide +kernel))) (by decide +kernel)
theorem pd_X7_keepReason : yX7_keepReason.cls ≠ "java/lang/invoke/MethodHandle" ∧ yX7_keepReason.cls ≠ "java/lang/invoke/VarHandle" ∧ (parseMethodDescriptor yX7_keepReason.desc).map (fun d => d.parameters.length) = some 1 := ⟨by decide, by decide, by decide +kernel⟩
theorem wm_X7_322 : (Cond.methodLink RX7 322 yX7_keepReason) ∈ gW := gW_of (tb_3 (List.mem_of_getElem? (i := 153) (by decide +kernel))) (by decide +kernel)
theorem wi_X7_keepReason : (Cond.instanceMethod yX7_keepReason) ∈ gW := gW_of (tb_3 (List.mem_of_getElem? (i := 155) (by decide +kernel))) (by decide +kernel)
theorem ws_X7_keepReason : (Cond.selects yX7_keepReason.cls yX7_keepReason yX7_keepReason) ∈ gW := gW_of (tb_sel (List.mem_of_getElem? (i := 11) (by decide +kernel))) (by decide +kernel)
theorem kX7_322 : xVk RX7 322 yX7_keepReason cX7_keepReason 2 none 1 7 := ⟨wm_X7_322, wi_X7_keepReason, ws_X7_keepReason, wz_X7, wc_X7_keepReason, pd_X7_keepReason, TX7, 10, rfl⟩
theorem w_classLink_RX7_335_java_lang_UnsupportedOperationException_ : (Cond.classLink RX7 335 "java/lang/UnsupportedOperationException") ∈ gW := gW_of (tb_3 (List.mem_of_getElem? (i := 157) (by decide +kernel))) (by decide +kernel)
theorem w_initialized_java_lang_UnsupportedOperationException_ : (Cond.initialized "java/lang/UnsupportedOperationException") ∈ gW := gW_of (tb_1 (List.mem_of_getElem? (i := 20) (by decide +kernel))) (by decide +kernel)
theorem w_methodLink_RX7_337_java_lang_UnsupportedOperationException_init_V_ : (Cond.methodLink RX7 337 ⟨"java/lang/UnsupportedOperationException", "<init>", "()V"⟩) ∈ gW := gW_of (tb_3 (List.mem_of_getElem? (i := 166) (by decide +kernel))) (by decide +kernel)
theorem tX7_335 : xTk RX7 335 337 4 := ⟨w_classLink_RX7_335_java_lang_UnsupportedOperationException_, w_initialized_java_lang_UnsupportedOperationException_, w_methodLink_RX7_337_java_lang_UnsupportedOperationException_init_V_⟩
theorem wc_X7_faultOfRate : (Cond.code yX7_faultOfRate cX7_faultOfRate 3 (some .int)) ∈ gW := gW_of (tb_3 (List.mem_of_getElem? (i := 133) (by decide +kernel))) (by decide +kernel)
theorem pd_X7_faultOfRate : yX7_faultOfRate.cls ≠ "java/lang/invoke/MethodHandle" ∧ yX7_faultOfRate.cls ≠ "java/lang/invoke/VarHandle" ∧ (parseMethodDescriptor yX7_faultOfRate.desc).map (fun d => d.parameters.length) = some 3 := ⟨by decide, by decide, by decide +kernel⟩
theorem wm_X7_87 : (Cond.methodLink RX7 87 yX7_faultOfRate) ∈ gW := gW_of (tb_3 (List.mem_of_getElem? (i := 131) (by decide +kernel))) (by decide +kernel)
theorem wt_X7_faultOfRate : (Cond.static yX7_faultOfRate) ∈ gW := gW_of (tb_3 (List.mem_of_getElem? (i := 132) (by decide +kernel))) (by decide +kernel)
theorem kX7_87 : xSk RX7 87 yX7_faultOfRate cX7_faultOfRate 3 (some .int) 3 := ⟨wm_X7_87, wt_X7_faultOfRate, wz_X7, wc_X7_faultOfRate, pd_X7_faultOfRate⟩
theorem wc_X7_refuse : (Cond.code yX7_refuse cX7_refuse 2 none) ∈ gW := gW_of (tb_3 (List.mem_of_getElem? (i := 137) (by decide +kernel))) (by decide +kernel)
theorem pd_X7_refuse : yX7_refuse.cls ≠ "java/lang/invoke/MethodHandle" ∧ yX7_refuse.cls ≠ "java/lang/invoke/VarHandle" ∧ (parseMethodDescriptor yX7_refuse.desc).map (fun d => d.parameters.length) = some 1 := ⟨by decide, by decide, by decide +kernel⟩
theorem wm_X7_91 : (Cond.methodLink RX7 91 yX7_refuse) ∈ gW := gW_of (tb_3 (List.mem_of_getElem? (i := 134) (by decide +kernel))) (by decide +kernel)
theorem wi_X7_refuse : (Cond.instanceMethod yX7_refuse) ∈ gW := gW_of (tb_3 (List.mem_of_getElem? (i := 136) (by decide +kernel))) (by decide +kernel)
theorem ws_X7_refuse : (Cond.selects yX7_refuse.cls yX7_refuse yX7_refuse) ∈ gW := gW_of (tb_sel (List.mem_of_getElem? (i := 10) (by decide +kernel))) (by decide +kernel)
theorem kX7_91 : xVk RX7 91 yX7_refuse cX7_refuse 2 none 1 7 := ⟨wm_X7_91, wi_X7_refuse, ws_X7_refuse, wz_X7, wc_X7_refuse, pd_X7_refuse, TX7, 10, rfl⟩
theorem w_fieldLink_RX7_95_ArbitrationFees_Accounts_rates_I_ : (Cond.fieldLink RX7 95 "ArbitrationFees$Accounts" "rates" "[I") ∈ gW := gW_of (tb_1 (List.mem_of_getElem? (i := 178) (by decide +kernel))) (by decide +kernel)
theorem fX7_95 : xFl RX7 95 0 4 (.array .int) true := ⟨RX0, TX0, 8, tyX0, rfl, inX0, by decide, w_fieldLink_RX7_95_ArbitrationFees_Accounts_rates_I_, rfl, tyX0_ok, nmX0, rfl, by decide +kernel⟩
theorem w_fieldLink_RX7_99_ArbitrationFees_Accounts_tiers_I_ : (Cond.fieldLink RX7 99 "ArbitrationFees$Accounts" "tiers" "[I") ∈ gW := gW_of (tb_1 (List.mem_of_getElem? (i := 180) (by decide +kernel))) (by decide +kernel)
theorem fX7_99 : xFl RX7 99 0 5 (.array .int) true := ⟨RX0, TX0, 8, tyX0, rfl, inX0, by decide, w_fieldLink_RX7_99_ArbitrationFees_Accounts_tiers_I_, rfl, tyX0_ok, nmX0, rfl, by decide +kernel⟩
theorem wm_X7_102 : (Cond.methodLink RX7 102 yX4_has) ∈ gW := gW_of (tb_3 (List.mem_of_getElem? (i := 186) (by decide +kernel))) (by decide +kernel)
theorem kX7_102 : xVk RX7 102 yX4_has cX4_has 2 (some .boolean) 1 4 := ⟨wm_X7_102, wi_X4_has, ws_X4_has, wz_X4, wc_X4_has, pd_X4_has, TX4, 7, rfl⟩
theorem wc_X7_faultOfQuestion : (Cond.code yX7_faultOfQuestion cX7_faultOfQuestion 3 (some .int)) ∈ gW := gW_of (tb_3 (List.mem_of_getElem? (i := 192) (by decide +kernel))) (by decide +kernel)
theorem pd_X7_faultOfQuestion : yX7_faultOfQuestion.cls ≠ "java/lang/invoke/MethodHandle" ∧ yX7_faultOfQuestion.cls ≠ "java/lang/invoke/VarHandle" ∧ (parseMethodDescriptor yX7_faultOfQuestion.desc).map (fun d => d.parameters.length) = some 3 := ⟨by decide, by decide, by decide +kernel⟩
theorem wm_X7_105 : (Cond.methodLink RX7 105 yX7_faultOfQuestion) ∈ gW := gW_of (tb_3 (List.mem_of_getElem? (i := 190) (by decide +kernel))) (by decide +kernel)
theorem wt_X7_faultOfQuestion : (Cond.static yX7_faultOfQuestion) ∈ gW := gW_of (tb_3 (List.mem_of_getElem? (i := 191) (by decide +kernel))) (by decide +kernel)
theorem kX7_105 : xSk RX7 105 yX7_faultOfQuestion cX7_faultOfQuestion 3 (some .int) 3 := ⟨wm_X7_105, wt_X7_faultOfQuestion, wz_X7, wc_X7_faultOfQuestion, pd_X7_faultOfQuestion⟩
theorem wc_X0_numberOfParty : (Cond.code yX0_numberOfParty cX0_numberOfParty 3 (some .long)) ∈ gW := gW_of (tb_3 (List.mem_of_getElem? (i := 196) (by decide +kernel))) (by decide +kernel)
theorem pd_X0_numberOfParty : yX0_numberOfParty.cls ≠ "java/lang/invoke/MethodHandle" ∧ yX0_numberOfParty.cls ≠ "java/lang/invoke/VarHandle" ∧ (parseMethodDescriptor yX0_numberOfParty.desc).map (fun d => d.parameters.length) = some 2 := ⟨by decide, by decide, by decide +kernel⟩
theorem wm_X7_109 : (Cond.methodLink RX7 109 yX0_numberOfParty) ∈ gW := gW_of (tb_3 (List.mem_of_getElem? (i := 193) (by decide +kernel))) (by decide +kernel)
theorem wi_X0_numberOfParty : (Cond.instanceMethod yX0_numberOfParty) ∈ gW := gW_of (tb_3 (List.mem_of_getElem? (i := 194) (by decide +kernel))) (by decide +kernel)
theorem ws_X0_numberOfParty : (Cond.selects yX0_numberOfParty.cls yX0_numberOfParty yX0_numberOfParty) ∈ gW := gW_of (tb_3 (List.mem_of_getElem? (i := 195) (by decide +kernel))) (by decide +kernel)
theorem kX7_109 : xVk RX7 109 yX0_numberOfParty cX0_numberOfParty 3 (some .long) 2 0 := ⟨wm_X7_109, wi_X0_numberOfParty, ws_X0_numberOfParty, wz_X0, wc_X0_numberOfParty, pd_X0_numberOfParty, TX0, 8, rfl⟩
theorem wc_X0_faultOfClaim : (Cond.code yX0_faultOfClaim cX0_faultOfClaim 4 (some .int)) ∈ gW := gW_of (tb_3 (List.mem_of_getElem? (i := 227) (by decide +kernel))) (by decide +kernel)
theorem pd_X0_faultOfClaim : yX0_faultOfClaim.cls ≠ "java/lang/invoke/MethodHandle" ∧ yX0_faultOfClaim.cls ≠ "java/lang/invoke/VarHandle" ∧ (parseMethodDescriptor yX0_faultOfClaim.desc).map (fun d => d.parameters.length) = some 3 := ⟨by decide, by decide, by decide +kernel⟩
theorem wm_X7_113 : (Cond.methodLink RX7 113 yX0_faultOfClaim) ∈ gW := gW_of (tb_3 (List.mem_of_getElem? (i := 224) (by decide +kernel))) (by decide +kernel)
theorem wi_X0_faultOfClaim : (Cond.instanceMethod yX0_faultOfClaim) ∈ gW := gW_of (tb_3 (List.mem_of_getElem? (i := 225) (by decide +kernel))) (by decide +kernel)
theorem ws_X0_faultOfClaim : (Cond.selects yX0_faultOfClaim.cls yX0_faultOfClaim yX0_faultOfClaim) ∈ gW := gW_of (tb_3 (List.mem_of_getElem? (i := 226) (by decide +kernel))) (by decide +kernel)
theorem kX7_113 : xVk RX7 113 yX0_faultOfClaim cX0_faultOfClaim 4 (some .int) 3 0 := ⟨wm_X7_113, wi_X0_faultOfClaim, ws_X0_faultOfClaim, wz_X0, wc_X0_faultOfClaim, pd_X0_faultOfClaim, TX0, 8, rfl⟩
theorem w_fieldLink_RX7_116_ArbitrationFees_Accounts_claims_LArbitrationFees_Claims_ : (Cond.fieldLink RX7 116 "ArbitrationFees$Accounts" "claims" "LArbitrationFees$Claims;") ∈ gW := gW_of (tb_1 (List.mem_of_getElem? (i := 172) (by decide +kernel))) (by decide +kernel)
theorem fX7_116 : xFl RX7 116 0 1 (.object "ArbitrationFees$Claims") true := ⟨RX0, TX0, 8, tyX0, rfl, inX0, by decide, w_fieldLink_RX7_116_ArbitrationFees_Accounts_claims_LArbitrationFees_Claims_, rfl, tyX0_ok, nmX0, rfl, by decide +kernel⟩
theorem wc_X1_addOne : (Cond.code yX1_addOne cX1_addOne 5 (some .int)) ∈ gW := gW_of (tb_4 (List.mem_of_getElem? (i := 0) (by decide +kernel))) (by decide +kernel)
theorem pd_X1_addOne : yX1_addOne.cls ≠ "java/lang/invoke/MethodHandle" ∧ yX1_addOne.cls ≠ "java/lang/invoke/VarHandle" ∧ (parseMethodDescriptor yX1_addOne.desc).map (fun d => d.parameters.length) = some 3 := ⟨by decide, by decide, by decide +kernel⟩
theorem wm_X7_120 : (Cond.methodLink RX7 120 yX1_addOne) ∈ gW := gW_of (tb_3 (List.mem_of_getElem? (i := 237) (by decide +kernel))) (by decide +kernel)
theorem wi_X1_addOne : (Cond.instanceMethod yX1_addOne) ∈ gW := gW_of (tb_3 (List.mem_of_getElem? (i := 238) (by decide +kernel))) (by decide +kernel)
theorem ws_X1_addOne : (Cond.selects yX1_addOne.cls yX1_addOne yX1_addOne) ∈ gW := gW_of (tb_3 (List.mem_of_getElem? (i := 239) (by decide +kernel))) (by decide +kernel)
theorem kX7_120 : xVk RX7 120 yX1_addOne cX1_addOne 5 (some .int) 3 1 := ⟨wm_X7_120, wi_X1_addOne, ws_X1_addOne, wz_X1, wc_X1_addOne, pd_X1_addOne, TX1, 7, rfl⟩
theorem wc_X0_faultOfRuling : (Cond.code yX0_faultOfRuling cX0_faultOfRuling 3 (some .int)) ∈ gW := gW_of (tb_4 (List.mem_of_getElem? (i := 12) (by decide +kernel))) (by decide +kernel)
theorem pd_X0_faultOfRuling : yX0_faultOfRuling.cls ≠ "java/lang/invoke/MethodHandle" ∧ yX0_faultOfRuling.cls ≠ "java/lang/invoke/VarHandle" ∧ (parseMethodDescriptor yX0_faultOfRuling.desc).map (fun d => d.parameters.length) = some 2 := ⟨by decide, by decide, by decide +kernel⟩
theorem wm_X7_124 : (Cond.methodLink RX7 124 yX0_faultOfRuling) ∈ gW := gW_of (tb_4 (List.mem_of_getElem? (i := 9) (by decide +kernel))) (by decide +kernel)
theorem wi_X0_faultOfRuling : (Cond.instanceMethod yX0_faultOfRuling) ∈ gW := gW_of (tb_4 (List.mem_of_getElem? (i := 10) (by decide +kernel))) (by decide +kernel)
theorem ws_X0_faultOfRuling : (Cond.selects yX0_faultOfRuling.cls yX0_faultOfRuling yX0_faultOfRuling) ∈ gW := gW_of (tb_4 (List.mem_of_getElem? (i := 11) (by decide +kernel))) (by decide +kernel)
theorem kX7_124 : xVk RX7 124 yX0_faultOfRuling cX0_faultOfRuling 3 (some .int) 2 0 := ⟨wm_X7_124, wi_X0_faultOfRuling, ws_X0_faultOfRuling, wz_X0, wc_X0_faultOfRuling, pd_X0_faultOfRuling, TX0, 8, rfl⟩
theorem wc_X0_makeAward : (Cond.code yX0_makeAward cX0_makeAward 3 none) ∈ gW := gW_of (tb_4 (List.mem_of_getElem? (i := 28) (by decide +kernel))) (by decide +kernel)
theorem pd_X0_makeAward : yX0_makeAward.cls ≠ "java/lang/invoke/MethodHandle" ∧ yX0_makeAward.cls ≠ "java/lang/invoke/VarHandle" ∧ (parseMethodDescriptor yX0_makeAward.desc).map (fun d => d.parameters.length) = some 2 := ⟨by decide, by decide, by decide +kernel⟩
theorem wm_X7_127 : (Cond.methodLink RX7 127 yX0_makeAward) ∈ gW := gW_of (tb_4 (List.mem_of_getElem? (i := 25) (by decide +kernel))) (by decide +kernel)
theorem wi_X0_makeAward : (Cond.instanceMethod yX0_makeAward) ∈ gW := gW_of (tb_4 (List.mem_of_getElem? (i := 26) (by decide +kernel))) (by decide +kernel)
theorem ws_X0_makeAward : (Cond.selects yX0_makeAward.cls yX0_makeAward yX0_makeAward) ∈ gW := gW_of (tb_4 (List.mem_of_getElem? (i := 27) (by decide +kernel))) (by decide +kernel)
theorem kX7_127 : xVk RX7 127 yX0_makeAward cX0_makeAward 3 none 2 0 := ⟨wm_X7_127, wi_X0_makeAward, ws_X0_makeAward, wz_X0, wc_X0_makeAward, pd_X0_makeAward, TX0, 8, rfl⟩
theorem wm_X7_131 : (Cond.methodLink RX7 131 yX1_leftOf) ∈ gW := gW_of (tb_4 (List.mem_of_getElem? (i := 33) (by decide +kernel))) (by decide +kernel)
theorem kX7_131 : xVk RX7 131 yX1_leftOf cX1_leftOf 2 (some .int) 1 1 := ⟨wm_X7_131, wi_X1_leftOf, ws_X1_leftOf, wz_X1, wc_X1_leftOf, pd_X1_leftOf, TX1, 7, rfl⟩
theorem wc_X0_makeDismissal : (Cond.code yX0_makeDismissal cX0_makeDismissal 3 none) ∈ gW := gW_of (tb_4 (List.mem_of_getElem? (i := 44) (by decide +kernel))) (by decide +kernel)
theorem pd_X0_makeDismissal : yX0_makeDismissal.cls ≠ "java/lang/invoke/MethodHandle" ∧ yX0_makeDismissal.cls ≠ "java/lang/invoke/VarHandle" ∧ (parseMethodDescriptor yX0_makeDismissal.desc).map (fun d => d.parameters.length) = some 2 := ⟨by decide, by decide, by decide +kernel⟩
theorem wm_X7_135 : (Cond.methodLink RX7 135 yX0_makeDismissal) ∈ gW := gW_of (tb_4 (List.mem_of_getElem? (i := 41) (by decide +kernel))) (by decide +kernel)
theorem wi_X0_makeDismissal : (Cond.instanceMethod yX0_makeDismissal) ∈ gW := gW_of (tb_4 (List.mem_of_getElem? (i := 42) (by decide +kernel))) (by decide +kernel)
theorem ws_X0_makeDismissal : (Cond.selects yX0_makeDismissal.cls yX0_makeDismissal yX0_makeDismissal) ∈ gW := gW_of (tb_4 (List.mem_of_getElem? (i := 43) (by decide +kernel))) (by decide +kernel)
theorem kX7_135 : xVk RX7 135 yX0_makeDismissal cX0_makeDismissal 3 none 2 0 := ⟨wm_X7_135, wi_X0_makeDismissal, ws_X0_makeDismissal, wz_X0, wc_X0_makeDismissal, pd_X0_makeDismissal, TX0, 8, rfl⟩
theorem wc_X0_faultOfWithdrawal : (Cond.code yX0_faultOfWithdrawal cX0_faultOfWithdrawal 3 (some .int)) ∈ gW := gW_of (tb_4 (List.mem_of_getElem? (i := 55) (by decide +kernel))) (by decide +kernel)
theorem pd_X0_faultOfWithdrawal : yX0_faultOfWithdrawal.cls ≠ "java/lang/invoke/MethodHandle" ∧ yX0_faultOfWithdrawal.cls ≠ "java/lang/invoke/VarHandle" ∧ (parseMethodDescriptor yX0_faultOfWithdrawal.desc).map (fun d => d.parameters.length) = some 2 := ⟨by decide, by decide, by decide +kernel⟩
theorem wm_X7_138 : (Cond.methodLink RX7 138 yX0_faultOfWithdrawal) ∈ gW := gW_of (tb_4 (List.mem_of_getElem? (i := 52) (by decide +kernel))) (by decide +kernel)
theorem wi_X0_faultOfWithdrawal : (Cond.instanceMethod yX0_faultOfWithdrawal) ∈ gW := gW_of (tb_4 (List.mem_of_getElem? (i := 53) (by decide +kernel))) (by decide +kernel)
theorem ws_X0_faultOfWithdrawal : (Cond.selects yX0_faultOfWithdrawal.cls yX0_faultOfWithdrawal yX0_faultOfWithdrawal) ∈ gW := gW_of (tb_4 (List.mem_of_getElem? (i := 54) (by decide +kernel))) (by decide +kernel)
theorem kX7_138 : xVk RX7 138 yX0_faultOfWithdrawal cX0_faultOfWithdrawal 3 (some .int) 2 0 := ⟨wm_X7_138, wi_X0_faultOfWithdrawal, ws_X0_faultOfWithdrawal, wz_X0, wc_X0_faultOfWithdrawal, pd_X0_faultOfWithdrawal, TX0, 8, rfl⟩
theorem wc_X0_makeWithdrawal : (Cond.code yX0_makeWithdrawal cX0_makeWithdrawal 3 none) ∈ gW := gW_of (tb_4 (List.mem_of_getElem? (i := 59) (by decide +kernel))) (by decide +kernel)
theorem pd_X0_makeWithdrawal : yX0_makeWithdrawal.cls ≠ "java/lang/invoke/MethodHandle" ∧ yX0_makeWithdrawal.cls ≠ "java/lang/invoke/VarHandle" ∧ (parseMethodDescriptor yX0_makeWithdrawal.desc).map (fun d => d.parameters.length) = some 2 := ⟨by decide, by decide, by decide +kernel⟩
theorem wm_X7_141 : (Cond.methodLink RX7 141 yX0_makeWithdrawal) ∈ gW := gW_of (tb_4 (List.mem_of_getElem? (i := 56) (by decide +kernel))) (by decide +kernel)
theorem wi_X0_makeWithdrawal : (Cond.instanceMethod yX0_makeWithdrawal) ∈ gW := gW_of (tb_4 (List.mem_of_getElem? (i := 57) (by decide +kernel))) (by decide +kernel)
theorem ws_X0_makeWithdrawal : (Cond.selects yX0_makeWithdrawal.cls yX0_makeWithdrawal yX0_makeWithdrawal) ∈ gW := gW_of (tb_4 (List.mem_of_getElem? (i := 58) (by decide +kernel))) (by decide +kernel)
theorem kX7_141 : xVk RX7 141 yX0_makeWithdrawal cX0_makeWithdrawal 3 none 2 0 := ⟨wm_X7_141, wi_X0_makeWithdrawal, ws_X0_makeWithdrawal, wz_X0, wc_X0_makeWithdrawal, pd_X0_makeWithdrawal, TX0, 8, rfl⟩
theorem wm_X7_144 : (Cond.methodLink RX7 144 yX1_has) ∈ gW := gW_of (tb_4 (List.mem_of_getElem? (i := 67) (by decide +kernel))) (by decide +kernel)
theorem kX7_144 : xVk RX7 144 yX1_has cX1_has 2 (some .boolean) 1 1 := ⟨wm_X7_144, wi_X1_has, ws_X1_has, wz_X1, wc_X1_has, pd_X1_has, TX1, 7, rfl⟩
theorem wc_X1_numberOf : (Cond.code yX1_numberOf cX1_numberOf 3 (some .int)) ∈ gW := gW_of (tb_4 (List.mem_of_getElem? (i := 71) (by decide +kernel))) (by decide +kernel)
theorem pd_X1_numberOf : yX1_numberOf.cls ≠ "java/lang/invoke/MethodHandle" ∧ yX1_numberOf.cls ≠ "java/lang/invoke/VarHandle" ∧ (parseMethodDescriptor yX1_numberOf.desc).map (fun d => d.parameters.length) = some 2 := ⟨by decide, by decide, by decide +kernel⟩
theorem wm_X7_145 : (Cond.methodLink RX7 145 yX1_numberOf) ∈ gW := gW_of (tb_4 (List.mem_of_getElem? (i := 68) (by decide +kernel))) (by decide +kernel)
theorem wi_X1_numberOf : (Cond.instanceMethod yX1_numberOf) ∈ gW := gW_of (tb_4 (List.mem_of_getElem? (i := 69) (by decide +kernel))) (by decide +kernel)
theorem ws_X1_numberOf : (Cond.selects yX1_numberOf.cls yX1_numberOf yX1_numberOf) ∈ gW := gW_of (tb_4 (List.mem_of_getElem? (i := 70) (by decide +kernel))) (by decide +kernel)
theorem kX7_145 : xVk RX7 145 yX1_numberOf cX1_numberOf 3 (some .int) 2 1 := ⟨wm_X7_145, wi_X1_numberOf, ws_X1_numberOf, wz_X1, wc_X1_numberOf, pd_X1_numberOf, TX1, 7, rfl⟩
theorem w_classLink_RX7_148_java_util_NoSuchElementException_ : (Cond.classLink RX7 148 "java/util/NoSuchElementException") ∈ gW := gW_of (tb_4 (List.mem_of_getElem? (i := 81) (by decide +kernel))) (by decide +kernel)
theorem w_initialized_java_util_NoSuchElementException_ : (Cond.initialized "java/util/NoSuchElementException") ∈ gW := gW_of (tb_1 (List.mem_of_getElem? (i := 21) (by decide +kernel))) (by decide +kernel)
theorem w_methodLink_RX7_150_java_util_NoSuchElementException_init_V_ : (Cond.methodLink RX7 150 ⟨"java/util/NoSuchElementException", "<init>", "()V"⟩) ∈ gW := gW_of (tb_4 (List.mem_of_getElem? (i := 90) (by decide +kernel))) (by decide +kernel)
theorem tX7_148 : xTk RX7 148 150 5 := ⟨w_classLink_RX7_148_java_util_NoSuchElementException_, w_initialized_java_util_NoSuchElementException_, w_methodLink_RX7_150_java_util_NoSuchElementException_init_V_⟩
theorem wm_X7_151 : (Cond.methodLink RX7 151 yX1_sumInDispute) ∈ gW := gW_of (tb_2 (List.mem_of_getElem? (i := 70) (by decide +kernel))) (by decide +kernel)
theorem kX7_151 : xVk RX7 151 yX1_sumInDispute cX1_sumInDispute 4 (some .long) 0 1 := ⟨wm_X7_151, wi_X1_sumInDispute, ws_X1_sumInDispute, wz_X1, wc_X1_sumInDispute, pd_X1_sumInDispute, TX1, 7, rfl⟩
theorem wm_X7_161 : (Cond.methodLink RX7 161 yX0_feeOfTier) ∈ gW := gW_of (tb_4 (List.mem_of_getElem? (i := 104) (by decide +kernel))) (by decide +kernel)
theorem kX7_161 : xVk RX7 161 yX0_feeOfTier cX0_feeOfTier 8 (some .long) 2 0 := ⟨wm_X7_161, wi_X0_feeOfTier, ws_X0_feeOfTier, wz_X0, wc_X0_feeOfTier, pd_X0_feeOfTier, TX0, 8, rfl⟩
theorem wm_X7_155 : (Cond.methodLink RX7 155 yX0_feesOfAll) ∈ gW := gW_of (tb_4 (List.mem_of_getElem? (i := 103) (by decide +kernel))) (by decide +kernel)
theorem kX7_155 : xVk RX7 155 yX0_feesOfAll cX0_feesOfAll 1 (some .long) 0 0 := ⟨wm_X7_155, wi_X0_feesOfAll, ws_X0_feesOfAll, wz_X0, wc_X0_feesOfAll, pd_X0_feesOfAll, TX0, 8, rfl⟩
theorem w_constant_RX7_165_1200000000 : (Cond.constant RX7 165 1200000000) ∈ gW := gW_of (tb_4 (List.mem_of_getElem? (i := 112) (by decide +kernel))) (by decide +kernel)
theorem wm_X7_166 : (Cond.methodLink RX7 166 yX0_feesOfSum) ∈ gW := gW_of (tb_4 (List.mem_of_getElem? (i := 113) (by decide +kernel))) (by decide +kernel)
theorem kX7_166 : xVk RX7 166 yX0_feesOfSum cX0_feesOfSum 6 (some .long) 1 0 := ⟨wm_X7_166, wi_X0_feesOfSum, ws_X0_feesOfSum, wz_X0, wc_X0_feesOfSum, pd_X0_feesOfSum, TX0, 8, rfl⟩
theorem wc_X0_numberOfSide : (Cond.code yX0_numberOfSide cX0_numberOfSide 3 (some .long)) ∈ gW := gW_of (tb_4 (List.mem_of_getElem? (i := 124) (by decide +kernel))) (by decide +kernel)
theorem pd_X0_numberOfSide : yX0_numberOfSide.cls ≠ "java/lang/invoke/MethodHandle" ∧ yX0_numberOfSide.cls ≠ "java/lang/invoke/VarHandle" ∧ (parseMethodDescriptor yX0_numberOfSide.desc).map (fun d => d.parameters.length) = some 2 := ⟨by decide, by decide, by decide +kernel⟩
theorem wm_X7_170 : (Cond.methodLink RX7 170 yX0_numberOfSide) ∈ gW := gW_of (tb_4 (List.mem_of_getElem? (i := 121) (by decide +kernel))) (by decide +kernel)
theorem wi_X0_numberOfSide : (Cond.instanceMethod yX0_numberOfSide) ∈ gW := gW_of (tb_4 (List.mem_of_getElem? (i := 122) (by decide +kernel))) (by decide +kernel)
theorem ws_X0_numberOfSide : (Cond.selects yX0_numberOfSide.cls yX0_numberOfSide yX0_numberOfSide) ∈ gW := gW_of (tb_4 (List.mem_of_getElem? (i := 123) (by decide +kernel))) (by decide +kernel)
theorem kX7_170 : xVk RX7 170 yX0_numberOfSide cX0_numberOfSide 3 (some .long) 2 0 := ⟨wm_X7_170, wi_X0_numberOfSide, ws_X0_numberOfSide, wz_X0, wc_X0_numberOfSide, pd_X0_numberOfSide, TX0, 8, rfl⟩
theorem wm_X7_173 : (Cond.methodLink RX7 173 yX7_isAmount) ∈ gW := gW_of (tb_4 (List.mem_of_getElem? (i := 137) (by decide +kernel))) (by decide +kernel)
theorem kX7_173 : xSk RX7 173 yX7_isAmount cX7_isAmount 1 (some .boolean) 1 := ⟨wm_X7_173, wt_X7_isAmount, wz_X7, wc_X7_isAmount, pd_X7_isAmount⟩
theorem wc_X0_makeCall : (Cond.code yX0_makeCall cX0_makeCall 8 (some .long)) ∈ gW := gW_of (tb_4 (List.mem_of_getElem? (i := 141) (by decide +kernel))) (by decide +kernel)
theorem pd_X0_makeCall : yX0_makeCall.cls ≠ "java/lang/invoke/MethodHandle" ∧ yX0_makeCall.cls ≠ "java/lang/invoke/VarHandle" ∧ (parseMethodDescriptor yX0_makeCall.desc).map (fun d => d.parameters.length) = some 1 := ⟨by decide, by decide, by decide +kernel⟩
theorem wm_X7_176 : (Cond.methodLink RX7 176 yX0_makeCall) ∈ gW := gW_of (tb_4 (List.mem_of_getElem? (i := 138) (by decide +kernel))) (by decide +kernel)
theorem wi_X0_makeCall : (Cond.instanceMethod yX0_makeCall) ∈ gW := gW_of (tb_4 (List.mem_of_getElem? (i := 139) (by decide +kernel))) (by decide +kernel)
theorem ws_X0_makeCall : (Cond.selects yX0_makeCall.cls yX0_makeCall yX0_makeCall) ∈ gW := gW_of (tb_4 (List.mem_of_getElem? (i := 140) (by decide +kernel))) (by decide +kernel)
theorem kX7_176 : xVk RX7 176 yX0_makeCall cX0_makeCall 8 (some .long) 1 0 := ⟨wm_X7_176, wi_X0_makeCall, ws_X0_makeCall, wz_X0, wc_X0_makeCall, pd_X0_makeCall, TX0, 8, rfl⟩
theorem wc_X0_faultOfPayment : (Cond.code yX0_faultOfPayment cX0_faultOfPayment 3 (some .int)) ∈ gW := gW_of (tb_4 (List.mem_of_getElem? (i := 152) (by decide +kernel))) (by decide +kernel)
theorem pd_X0_faultOfPayment : yX0_faultOfPayment.cls ≠ "java/lang/invoke/MethodHandle" ∧ yX0_faultOfPayment.cls ≠ "java/lang/invoke/VarHandle" ∧ (parseMethodDescriptor yX0_faultOfPayment.desc).map (fun d => d.parameters.length) = some 2 := ⟨by decide, by decide, by decide +kernel⟩
theorem wm_X7_180 : (Cond.methodLink RX7 180 yX0_faultOfPayment) ∈ gW := gW_of (tb_4 (List.mem_of_getElem? (i := 149) (by decide +kernel))) (by decide +kernel)
theorem wi_X0_faultOfPayment : (Cond.instanceMethod yX0_faultOfPayment) ∈ gW := gW_of (tb_4 (List.mem_of_getElem? (i := 150) (by decide +kernel))) (by decide +kernel)
theorem ws_X0_faultOfPayment : (Cond.selects yX0_faultOfPayment.cls yX0_faultOfPayment yX0_faultOfPayment) ∈ gW := gW_of (tb_4 (List.mem_of_getElem? (i := 151) (by decide +kernel))) (by decide +kernel)
theorem kX7_180 : xVk RX7 180 yX0_faultOfPayment cX0_faultOfPayment 3 (some .int) 2 0 := ⟨wm_X7_180, wi_X0_faultOfPayment, ws_X0_faultOfPayment, wz_X0, wc_X0_faultOfPayment, pd_X0_faultOfPayment, TX0, 8, rfl⟩
theorem wm_X7_183 : (Cond.methodLink RX7 183 yX0_makePayment) ∈ gW := gW_of (tb_4 (List.mem_of_getElem? (i := 154) (by decide +kernel))) (by decide +kernel)
theorem kX7_183 : xVk RX7 183 yX0_makePayment cX0_makePayment 4 none 2 0 := ⟨wm_X7_183, wi_X0_makePayment, ws_X0_makePayment, wz_X0, wc_X0_makePayment, pd_X0_makePayment, TX0, 8, rfl⟩
theorem wm_X7_187 : (Cond.methodLink RX7 187 yX4_heldFor) ∈ gW := gW_of (tb_4 (List.mem_of_getElem? (i := 158) (by decide +kernel))) (by decide +kernel)
theorem kX7_187 : xVk RX7 187 yX4_heldFor cX4_heldFor 2 (some .long) 1 4 := ⟨wm_X7_187, wi_X4_heldFor, ws_X4_heldFor, wz_X4, wc_X4_heldFor, pd_X4_heldFor, TX4, 7, rfl⟩
theorem wc_X0_faultOfPaymentFor : (Cond.code yX0_faultOfPaymentFor cX0_faultOfPaymentFor 3 (some .int)) ∈ gW := gW_of (tb_4 (List.mem_of_getElem? (i := 169) (by decide +kernel))) (by decide +kernel)
theorem pd_X0_faultOfPaymentFor : yX0_faultOfPaymentFor.cls ≠ "java/lang/invoke/MethodHandle" ∧ yX0_faultOfPaymentFor.cls ≠ "java/lang/invoke/VarHandle" ∧ (parseMethodDescriptor yX0_faultOfPaymentFor.desc).map (fun d => d.parameters.length) = some 2 := ⟨by decide, by decide, by decide +kernel⟩
theorem wm_X7_190 : (Cond.methodLink RX7 190 yX0_faultOfPaymentFor) ∈ gW := gW_of (tb_4 (List.mem_of_getElem? (i := 166) (by decide +kernel))) (by decide +kernel)
theorem wi_X0_faultOfPaymentFor : (Cond.instanceMethod yX0_faultOfPaymentFor) ∈ gW := gW_of (tb_4 (List.mem_of_getElem? (i := 167) (by decide +kernel))) (by decide +kernel)
theorem ws_X0_faultOfPaymentFor : (Cond.selects yX0_faultOfPaymentFor.cls yX0_faultOfPaymentFor yX0_faultOfPaymentFor) ∈ gW := gW_of (tb_4 (List.mem_of_getElem? (i := 168) (by decide +kernel))) (by decide +kernel)
theorem kX7_190 : xVk RX7 190 yX0_faultOfPaymentFor cX0_faultOfPaymentFor 3 (some .int) 2 0 := ⟨wm_X7_190, wi_X0_faultOfPaymentFor, ws_X0_faultOfPaymentFor, wz_X0, wc_X0_faultOfPaymentFor, pd_X0_faultOfPaymentFor, TX0, 8, rfl⟩
theorem wc_X0_makePaymentFor : (Cond.code yX0_makePaymentFor cX0_makePaymentFor 5 (some .long)) ∈ gW := gW_of (tb_4 (List.mem_of_getElem? (i := 174) (by decide +kernel))) (by decide +kernel)
theorem pd_X0_makePaymentFor : yX0_makePaymentFor.cls ≠ "java/lang/invoke/MethodHandle" ∧ yX0_makePaymentFor.cls ≠ "java/lang/invoke/VarHandle" ∧ (parseMethodDescriptor yX0_makePaymentFor.desc).map (fun d => d.parameters.length) = some 2 := ⟨by decide, by decide, by decide +kernel⟩
theorem wm_X7_193 : (Cond.methodLink RX7 193 yX0_makePaymentFor) ∈ gW := gW_of (tb_4 (List.mem_of_getElem? (i := 171) (by decide +kernel))) (by decide +kernel)
theorem wi_X0_makePaymentFor : (Cond.instanceMethod yX0_makePaymentFor) ∈ gW := gW_of (tb_4 (List.mem_of_getElem? (i := 172) (by decide +kernel))) (by decide +kernel)
theorem ws_X0_makePaymentFor : (Cond.selects yX0_makePaymentFor.cls yX0_makePaymentFor yX0_makePaymentFor) ∈ gW := gW_of (tb_4 (List.mem_of_getElem? (i := 173) (by decide +kernel))) (by decide +kernel)
theorem kX7_193 : xVk RX7 193 yX0_makePaymentFor cX0_makePaymentFor 5 (some .long) 2 0 := ⟨wm_X7_193, wi_X0_makePaymentFor, ws_X0_makePaymentFor, wz_X0, wc_X0_makePaymentFor, pd_X0_makePaymentFor, TX0, 8, rfl⟩
theorem wc_X0_takeAllFees : (Cond.code yX0_takeAllFees cX0_takeAllFees 8 (some .long)) ∈ gW := gW_of (tb_2 (List.mem_of_getElem? (i := 116) (by decide +kernel))) (by decide +kernel)
theorem pd_X0_takeAllFees : yX0_takeAllFees.cls ≠ "java/lang/invoke/MethodHandle" ∧ yX0_takeAllFees.cls ≠ "java/lang/invoke/VarHandle" ∧ (parseMethodDescriptor yX0_takeAllFees.desc).map (fun d => d.parameters.length) = some 0 := ⟨by decide, by decide, by decide +kernel⟩
theorem wm_X7_196 : (Cond.methodLink RX7 196 yX0_takeAllFees) ∈ gW := gW_of (tb_2 (List.mem_of_getElem? (i := 113) (by decide +kernel))) (by decide +kernel)
theorem wi_X0_takeAllFees : (Cond.instanceMethod yX0_takeAllFees) ∈ gW := gW_of (tb_2 (List.mem_of_getElem? (i := 114) (by decide +kernel))) (by decide +kernel)
theorem ws_X0_takeAllFees : (Cond.selects yX0_takeAllFees.cls yX0_takeAllFees yX0_takeAllFees) ∈ gW := gW_of (tb_2 (List.mem_of_getElem? (i := 115) (by decide +kernel))) (by decide +kernel)
theorem kX7_196 : xVk RX7 196 yX0_takeAllFees cX0_takeAllFees 8 (some .long) 0 0 := ⟨wm_X7_196, wi_X0_takeAllFees, ws_X0_takeAllFees, wz_X0, wc_X0_takeAllFees, pd_X0_takeAllFees, TX0, 8, rfl⟩
theorem w_fieldLink_RX7_199_ArbitrationFees_Accounts_stage_I_ : (Cond.fieldLink RX7 199 "ArbitrationFees$Accounts" "stage" "I") ∈ gW := gW_of (tb_1 (List.mem_of_getElem? (i := 183) (by decide +kernel))) (by decide +kernel)
theorem fX7_199 : xFl RX7 199 0 7 .int false := ⟨RX0, TX0, 8, tyX0, rfl, inX0, by decide, w_fieldLink_RX7_199_ArbitrationFees_Accounts_stage_I_, rfl, tyX0_ok, nmX0, rfl, by decide +kernel⟩
theorem wc_X0_returnAll : (Cond.code yX0_returnAll cX0_returnAll 8 (some .long)) ∈ gW := gW_of (tb_4 (List.mem_of_getElem? (i := 186) (by decide +kernel))) (by decide +kernel)
theorem pd_X0_returnAll : yX0_returnAll.cls ≠ "java/lang/invoke/MethodHandle" ∧ yX0_returnAll.cls ≠ "java/lang/invoke/VarHandle" ∧ (parseMethodDescriptor yX0_returnAll.desc).map (fun d => d.parameters.length) = some 0 := ⟨by decide, by decide, by decide +kernel⟩
theorem wm_X7_202 : (Cond.methodLink RX7 202 yX0_returnAll) ∈ gW := gW_of (tb_4 (List.mem_of_getElem? (i := 183) (by decide +kernel))) (by decide +kernel)
theorem wi_X0_returnAll : (Cond.instanceMethod yX0_returnAll) ∈ gW := gW_of (tb_4 (List.mem_of_getElem? (i := 184) (by decide +kernel))) (by decide +kernel)
theorem ws_X0_returnAll : (Cond.selects yX0_returnAll.cls yX0_returnAll yX0_returnAll) ∈ gW := gW_of (tb_4 (List.mem_of_getElem? (i := 185) (by decide +kernel))) (by decide +kernel)
theorem kX7_202 : xVk RX7 202 yX0_returnAll cX0_returnAll 8 (some .long) 0 0 := ⟨wm_X7_202, wi_X0_returnAll, ws_X0_returnAll, wz_X0, wc_X0_returnAll, pd_X0_returnAll, TX0, 8, rfl⟩
theorem wm_X7_205 : (Cond.methodLink RX7 205 yX4_hasBoth) ∈ gW := gW_of (tb_4 (List.mem_of_getElem? (i := 195) (by decide +kernel))) (by decide +kernel)
theorem kX7_205 : xVk RX7 205 yX4_hasBoth cX4_hasBoth 3 (some .boolean) 2 4 := ⟨wm_X7_205, wi_X4_hasBoth, ws_X4_hasBoth, wz_X4, wc_X4_hasBoth, pd_X4_hasBoth, TX4, 7, rfl⟩
theorem w_fieldLink_RX7_209_ArbitrationFees_Accounts_debts_LArbitrationFees_Debts_ : (Cond.fieldLink RX7 209 "ArbitrationFees$Accounts" "debts" "LArbitrationFees$Debts;") ∈ gW := gW_of (tb_1 (List.mem_of_getElem? (i := 174) (by decide +kernel))) (by decide +kernel)
theorem fX7_209 : xFl RX7 209 0 2 (.object "ArbitrationFees$Debts") true := ⟨RX0, TX0, 8, tyX0, rfl, inX0, by decide, w_fieldLink_RX7_209_ArbitrationFees_Accounts_debts_LArbitrationFees_Debts_, rfl, tyX0_ok, nmX0, rfl, by decide +kernel⟩
theorem wm_X7_213 : (Cond.methodLink RX7 213 yX2_owedBy) ∈ gW := gW_of (tb_4 (List.mem_of_getElem? (i := 196) (by decide +kernel))) (by decide +kernel)
theorem kX7_213 : xVk RX7 213 yX2_owedBy cX2_owedBy 4 (some .long) 2 2 := ⟨wm_X7_213, wi_X2_owedBy, ws_X2_owedBy, wz_X2, wc_X2_owedBy, pd_X2_owedBy, TX2, 6, rfl⟩
theorem wc_X2_has : (Cond.code yX2_has cX2_has 2 (some .boolean)) ∈ gW := gW_of (tb_4 (List.mem_of_getElem? (i := 207) (by decide +kernel))) (by decide +kernel)
theorem pd_X2_has : yX2_has.cls ≠ "java/lang/invoke/MethodHandle" ∧ yX2_has.cls ≠ "java/lang/invoke/VarHandle" ∧ (parseMethodDescriptor yX2_has.desc).map (fun d => d.parameters.length) = some 1 := ⟨by decide, by decide, by decide +kernel⟩
theorem wm_X7_218 : (Cond.methodLink RX7 218 yX2_has) ∈ gW := gW_of (tb_4 (List.mem_of_getElem? (i := 204) (by decide +kernel))) (by decide +kernel)
theorem wi_X2_has : (Cond.instanceMethod yX2_has) ∈ gW := gW_of (tb_4 (List.mem_of_getElem? (i := 205) (by decide +kernel))) (by decide +kernel)
theorem ws_X2_has : (Cond.selects yX2_has.cls yX2_has yX2_has) ∈ gW := gW_of (tb_4 (List.mem_of_getElem? (i := 206) (by decide +kernel))) (by decide +kernel)
theorem kX7_218 : xVk RX7 218 yX2_has cX2_has 2 (some .boolean) 1 2 := ⟨wm_X7_218, wi_X2_has, ws_X2_has, wz_X2, wc_X2_has, pd_X2_has, TX2, 6, rfl⟩
theorem wc_X2_numberOf : (Cond.code yX2_numberOf cX2_numberOf 3 (some .long)) ∈ gW := gW_of (tb_4 (List.mem_of_getElem? (i := 211) (by decide +kernel))) (by decide +kernel)
theorem pd_X2_numberOf : yX2_numberOf.cls ≠ "java/lang/invoke/MethodHandle" ∧ yX2_numberOf.cls ≠ "java/lang/invoke/VarHandle" ∧ (parseMethodDescriptor yX2_numberOf.desc).map (fun d => d.parameters.length) = some 2 := ⟨by decide, by decide, by decide +kernel⟩
theorem wm_X7_219 : (Cond.methodLink RX7 219 yX2_numberOf) ∈ gW := gW_of (tb_4 (List.mem_of_getElem? (i := 208) (by decide +kernel))) (by decide +kernel)
theorem wi_X2_numberOf : (Cond.instanceMethod yX2_numberOf) ∈ gW := gW_of (tb_4 (List.mem_of_getElem? (i := 209) (by decide +kernel))) (by decide +kernel)
theorem ws_X2_numberOf : (Cond.selects yX2_numberOf.cls yX2_numberOf yX2_numberOf) ∈ gW := gW_of (tb_4 (List.mem_of_getElem? (i := 210) (by decide +kernel))) (by decide +kernel)
theorem kX7_219 : xVk RX7 219 yX2_numberOf cX2_numberOf 3 (some .long) 2 2 := ⟨wm_X7_219, wi_X2_numberOf, ws_X2_numberOf, wz_X2, wc_X2_numberOf, pd_X2_numberOf, TX2, 6, rfl⟩
theorem wc_X0_faultOfSettlement : (Cond.code yX0_faultOfSettlement cX0_faultOfSettlement 4 (some .int)) ∈ gW := gW_of (tb_4 (List.mem_of_getElem? (i := 222) (by decide +kernel))) (by decide +kernel)
theorem pd_X0_faultOfSettlement : yX0_faultOfSettlement.cls ≠ "java/lang/invoke/MethodHandle" ∧ yX0_faultOfSettlement.cls ≠ "java/lang/invoke/VarHandle" ∧ (parseMethodDescriptor yX0_faultOfSettlement.desc).map (fun d => d.parameters.length) = some 3 := ⟨by decide, by decide, by decide +kernel⟩
theorem wm_X7_221 : (Cond.methodLink RX7 221 yX0_faultOfSettlement) ∈ gW := gW_of (tb_4 (List.mem_of_getElem? (i := 219) (by decide +kernel))) (by decide +kernel)
theorem wi_X0_faultOfSettlement : (Cond.instanceMethod yX0_faultOfSettlement) ∈ gW := gW_of (tb_4 (List.mem_of_getElem? (i := 220) (by decide +kernel))) (by decide +kernel)
theorem ws_X0_faultOfSettlement : (Cond.selects yX0_faultOfSettlement.cls yX0_faultOfSettlement yX0_faultOfSettlement) ∈ gW := gW_of (tb_4 (List.mem_of_getElem? (i := 221) (by decide +kernel))) (by decide +kernel)
theorem kX7_221 : xVk RX7 221 yX0_faultOfSettlement cX0_faultOfSettlement 4 (some .int) 3 0 := ⟨wm_X7_221, wi_X0_faultOfSettlement, ws_X0_faultOfSettlement, wz_X0, wc_X0_faultOfSettlement, pd_X0_faultOfSettlement, TX0, 8, rfl⟩
theorem wc_X0_makeSettlement : (Cond.code yX0_makeSettlement cX0_makeSettlement 4 none) ∈ gW := gW_of (tb_4 (List.mem_of_getElem? (i := 226) (by decide +kernel))) (by decide +kernel)
theorem pd_X0_makeSettlement : yX0_makeSettlement.cls ≠ "java/lang/invoke/MethodHandle" ∧ yX0_makeSettlement.cls ≠ "java/lang/invoke/VarHandle" ∧ (parseMethodDescriptor yX0_makeSettlement.desc).map (fun d => d.parameters.length) = some 3 := ⟨by decide, by decide, by decide +kernel⟩
theorem wm_X7_224 : (Cond.methodLink RX7 224 yX0_makeSettlement) ∈ gW := gW_of (tb_4 (List.mem_of_getElem? (i := 223) (by decide +kernel))) (by decide +kernel)
theorem wi_X0_makeSettlement : (Cond.instanceMethod yX0_makeSettlement) ∈ gW := gW_of (tb_4 (List.mem_of_getElem? (i := 224) (by decide +kernel))) (by decide +kernel)
theorem ws_X0_makeSettlement : (Cond.selects yX0_makeSettlement.cls yX0_makeSettlement yX0_makeSettlement) ∈ gW := gW_of (tb_4 (List.mem_of_getElem? (i := 225) (by decide +kernel))) (by decide +kernel)
theorem kX7_224 : xVk RX7 224 yX0_makeSettlement cX0_makeSettlement 4 none 3 0 := ⟨wm_X7_224, wi_X0_makeSettlement, ws_X0_makeSettlement, wz_X0, wc_X0_makeSettlement, pd_X0_makeSettlement, TX0, 8, rfl⟩
theorem wc_X0_faultOfOffset : (Cond.code yX0_faultOfOffset cX0_faultOfOffset 4 (some .int)) ∈ gW := gW_of (tb_4 (List.mem_of_getElem? (i := 237) (by decide +kernel))) (by decide +kernel)
theorem pd_X0_faultOfOffset : yX0_faultOfOffset.cls ≠ "java/lang/invoke/MethodHandle" ∧ yX0_faultOfOffset.cls ≠ "java/lang/invoke/VarHandle" ∧ (parseMethodDescriptor yX0_faultOfOffset.desc).map (fun d => d.parameters.length) = some 2 := ⟨by decide, by decide, by decide +kernel⟩
theorem wm_X7_228 : (Cond.methodLink RX7 228 yX0_faultOfOffset) ∈ gW := gW_of (tb_4 (List.mem_of_getElem? (i := 234) (by decide +kernel))) (by decide +kernel)
theorem wi_X0_faultOfOffset : (Cond.instanceMethod yX0_faultOfOffset) ∈ gW := gW_of (tb_4 (List.mem_of_getElem? (i := 235) (by decide +kernel))) (by decide +kernel)
theorem ws_X0_faultOfOffset : (Cond.selects yX0_faultOfOffset.cls yX0_faultOfOffset yX0_faultOfOffset) ∈ gW := gW_of (tb_4 (List.mem_of_getElem? (i := 236) (by decide +kernel))) (by decide +kernel)
theorem kX7_228 : xVk RX7 228 yX0_faultOfOffset cX0_faultOfOffset 4 (some .int) 2 0 := ⟨wm_X7_228, wi_X0_faultOfOffset, ws_X0_faultOfOffset, wz_X0, wc_X0_faultOfOffset, pd_X0_faultOfOffset, TX0, 8, rfl⟩
theorem wc_X0_makeOffset : (Cond.code yX0_makeOffset cX0_makeOffset 5 (some .long)) ∈ gW := gW_of (tb_5 (List.mem_of_getElem? (i := 1) (by decide +kernel))) (by decide +kernel)
theorem pd_X0_makeOffset : yX0_makeOffset.cls ≠ "java/lang/invoke/MethodHandle" ∧ yX0_makeOffset.cls ≠ "java/lang/invoke/VarHandle" ∧ (parseMethodDescriptor yX0_makeOffset.desc).map (fun d => d.parameters.length) = some 2 := ⟨by decide, by decide, by decide +kernel⟩
theorem wm_X7_231 : (Cond.methodLink RX7 231 yX0_makeOffset) ∈ gW := gW_of (tb_4 (List.mem_of_getElem? (i := 238) (by decide +kernel))) (by decide +kernel)
theorem wi_X0_makeOffset : (Cond.instanceMethod yX0_makeOffset) ∈ gW := gW_of (tb_4 (List.mem_of_getElem? (i := 239) (by decide +kernel))) (by decide +kernel)
theorem ws_X0_makeOffset : (Cond.selects yX0_makeOffset.cls yX0_makeOffset yX0_makeOffset) ∈ gW := gW_of (tb_5 (List.mem_of_getElem? (i := 0) (by decide +kernel))) (by decide +kernel)
theorem kX7_231 : xVk RX7 231 yX0_makeOffset cX0_makeOffset 5 (some .long) 2 0 := ⟨wm_X7_231, wi_X0_makeOffset, ws_X0_makeOffset, wz_X0, wc_X0_makeOffset, pd_X0_makeOffset, TX0, 8, rfl⟩
theorem w_fieldLink_RX7_33_ArbitrationFees_rings_LArbitrationFees_RingFinder_ : (Cond.fieldLink RX7 33 "ArbitrationFees" "rings" "LArbitrationFees$RingFinder;") ∈ gW := gW_of (tb_2 (List.mem_of_getElem? (i := 28) (by decide +kernel))) (by decide +kernel)
theorem fX7_33 : xFl RX7 33 7 4 (.object "ArbitrationFees$RingFinder") true := ⟨RX7, TX7, 10, tyX7, rfl, inX7, by decide, w_fieldLink_RX7_33_ArbitrationFees_rings_LArbitrationFees_RingFinder_, rfl, tyX7_ok, nmX7, rfl, by decide +kernel⟩
theorem wm_X7_234 : (Cond.methodLink RX7 234 yX5_findFirst) ∈ gW := gW_of (tb_5 (List.mem_of_getElem? (i := 9) (by decide +kernel))) (by decide +kernel)
theorem kX7_234 : xVk RX7 234 yX5_findFirst cX5_findFirst 4 none 1 5 := ⟨wm_X7_234, wi_X5_findFirst, ws_X5_findFirst, wz_X5, wc_X5_findFirst, pd_X5_findFirst, TX5, 3, rfl⟩
theorem w_fieldLink_RX7_238_ArbitrationFees_RingFinder_length_I_ : (Cond.fieldLink RX7 238 "ArbitrationFees$RingFinder" "length" "I") ∈ gW := gW_of (tb_2 (List.mem_of_getElem? (i := 12) (by decide +kernel))) (by decide +kernel)
theorem fX7_238 : xFl RX7 238 5 0 .int false := ⟨RX5, TX5, 3, tyX5, rfl, inX5, by decide, w_fieldLink_RX7_238_ArbitrationFees_RingFinder_length_I_, rfl, tyX5_ok, nmX5, rfl, by decide +kernel⟩
theorem w_fieldLink_RX7_241_ArbitrationFees_RingFinder_row_I_ : (Cond.fieldLink RX7 241 "ArbitrationFees$RingFinder" "row" "[I") ∈ gW := gW_of (tb_2 (List.mem_of_getElem? (i := 15) (by decide +kernel))) (by decide +kernel)
theorem fX7_241 : xFl RX7 241 5 1 (.array .int) true := ⟨RX5, TX5, 3, tyX5, rfl, inX5, by decide, w_fieldLink_RX7_241_ArbitrationFees_RingFinder_row_I_, rfl, tyX5_ok, nmX5, rfl, by decide +kernel⟩
theorem wc_X0_clearAllRings : (Cond.code yX0_clearAllRings cX0_clearAllRings 5 (some .long)) ∈ gW := gW_of (tb_2 (List.mem_of_getElem? (i := 181) (by decide +kernel))) (by decide +kernel)
theorem pd_X0_clearAllRings : yX0_clearAllRings.cls ≠ "java/lang/invoke/MethodHandle" ∧ yX0_clearAllRings.cls ≠ "java/lang/invoke/VarHandle" ∧ (parseMethodDescriptor yX0_clearAllRings.desc).map (fun d => d.parameters.length) = some 1 := ⟨by decide, by decide, by decide +kernel⟩
theorem wm_X7_244 : (Cond.methodLink RX7 244 yX0_clearAllRings) ∈ gW := gW_of (tb_2 (List.mem_of_getElem? (i := 178) (by decide +kernel))) (by decide +kernel)
theorem wi_X0_clearAllRings : (Cond.instanceMethod yX0_clearAllRings) ∈ gW := gW_of (tb_2 (List.mem_of_getElem? (i := 179) (by decide +kernel))) (by decide +kernel)
theorem ws_X0_clearAllRings : (Cond.selects yX0_clearAllRings.cls yX0_clearAllRings yX0_clearAllRings) ∈ gW := gW_of (tb_2 (List.mem_of_getElem? (i := 180) (by decide +kernel))) (by decide +kernel)
theorem kX7_244 : xVk RX7 244 yX0_clearAllRings cX0_clearAllRings 5 (some .long) 1 0 := ⟨wm_X7_244, wi_X0_clearAllRings, ws_X0_clearAllRings, wz_X0, wc_X0_clearAllRings, pd_X0_clearAllRings, TX0, 8, rfl⟩
theorem wm_X7_248 : (Cond.methodLink RX7 248 yX2_allOwedTo) ∈ gW := gW_of (tb_5 (List.mem_of_getElem? (i := 17) (by decide +kernel))) (by decide +kernel)
theorem kX7_248 : xVk RX7 248 yX2_allOwedTo cX2_allOwedTo 5 (some .long) 1 2 := ⟨wm_X7_248, wi_X2_allOwedTo, ws_X2_allOwedTo, wz_X2, wc_X2_allOwedTo, pd_X2_allOwedTo, TX2, 6, rfl⟩
theorem wm_X7_251 : (Cond.methodLink RX7 251 yX2_allOwedBy) ∈ gW := gW_of (tb_5 (List.mem_of_getElem? (i := 18) (by decide +kernel))) (by decide +kernel)
theorem kX7_251 : xVk RX7 251 yX2_allOwedBy cX2_allOwedBy 5 (some .long) 1 2 := ⟨wm_X7_251, wi_X2_allOwedBy, ws_X2_allOwedBy, wz_X2, wc_X2_allOwedBy, pd_X2_allOwedBy, TX2, 6, rfl⟩
theorem w_constant_RX7_254_1000000000 : (Cond.constant RX7 254 1000000000) ∈ gW := gW_of (tb_5 (List.mem_of_getElem? (i := 26) (by decide +kernel))) (by decide +kernel)
theorem wc_X2_daysUntil : (Cond.code yX2_daysUntil cX2_daysUntil 11 (some .long)) ∈ gW := gW_of (tb_5 (List.mem_of_getElem? (i := 30) (by decide +kernel))) (by decide +kernel)
theorem pd_X2_daysUntil : yX2_daysUntil.cls ≠ "java/lang/invoke/MethodHandle" ∧ yX2_daysUntil.cls ≠ "java/lang/invoke/VarHandle" ∧ (parseMethodDescriptor yX2_daysUntil.desc).map (fun d => d.parameters.length) = some 3 := ⟨by decide, by decide, by decide +kernel⟩
theorem wm_X7_255 : (Cond.methodLink RX7 255 yX2_daysUntil) ∈ gW := gW_of (tb_5 (List.mem_of_getElem? (i := 27) (by decide +kernel))) (by decide +kernel)
theorem wi_X2_daysUntil : (Cond.instanceMethod yX2_daysUntil) ∈ gW := gW_of (tb_5 (List.mem_of_getElem? (i := 28) (by decide +kernel))) (by decide +kernel)
theorem ws_X2_daysUntil : (Cond.selects yX2_daysUntil.cls yX2_daysUntil yX2_daysUntil) ∈ gW := gW_of (tb_5 (List.mem_of_getElem? (i := 29) (by decide +kernel))) (by decide +kernel)
theorem kX7_255 : xVk RX7 255 yX2_daysUntil cX2_daysUntil 11 (some .long) 3 2 := ⟨wm_X7_255, wi_X2_daysUntil, ws_X2_daysUntil, wz_X2, wc_X2_daysUntil, pd_X2_daysUntil, TX2, 6, rfl⟩
theorem w_constantLong_RX7_259_3650 : (Cond.constantLong RX7 259 3650) ∈ gW := gW_of (tb_5 (List.mem_of_getElem? (i := 33) (by decide +kernel))) (by decide +kernel)
theorem wc_X0_faultOfDays : (Cond.code yX0_faultOfDays cX0_faultOfDays 2 (some .int)) ∈ gW := gW_of (tb_5 (List.mem_of_getElem? (i := 44) (by decide +kernel))) (by decide +kernel)
theorem pd_X0_faultOfDays : yX0_faultOfDays.cls ≠ "java/lang/invoke/MethodHandle" ∧ yX0_faultOfDays.cls ≠ "java/lang/invoke/VarHandle" ∧ (parseMethodDescriptor yX0_faultOfDays.desc).map (fun d => d.parameters.length) = some 1 := ⟨by decide, by decide, by decide +kernel⟩
theorem wm_X7_261 : (Cond.methodLink RX7 261 yX0_faultOfDays) ∈ gW := gW_of (tb_5 (List.mem_of_getElem? (i := 41) (by decide +kernel))) (by decide +kernel)
theorem wi_X0_faultOfDays : (Cond.instanceMethod yX0_faultOfDays) ∈ gW := gW_of (tb_5 (List.mem_of_getElem? (i := 42) (by decide +kernel))) (by decide +kernel)
theorem ws_X0_faultOfDays : (Cond.selects yX0_faultOfDays.cls yX0_faultOfDays yX0_faultOfDays) ∈ gW := gW_of (tb_5 (List.mem_of_getElem? (i := 43) (by decide +kernel))) (by decide +kernel)
theorem kX7_261 : xVk RX7 261 yX0_faultOfDays cX0_faultOfDays 2 (some .int) 1 0 := ⟨wm_X7_261, wi_X0_faultOfDays, ws_X0_faultOfDays, wz_X0, wc_X0_faultOfDays, pd_X0_faultOfDays, TX0, 8, rfl⟩
theorem wc_X0_letDaysPass : (Cond.code yX0_letDaysPass cX0_letDaysPass 2 (some .long)) ∈ gW := gW_of (tb_5 (List.mem_of_getElem? (i := 49) (by decide +kernel))) (by decide +kernel)
theorem pd_X0_letDaysPass : yX0_letDaysPass.cls ≠ "java/lang/invoke/MethodHandle" ∧ yX0_letDaysPass.cls ≠ "java/lang/invoke/VarHandle" ∧ (parseMethodDescriptor yX0_letDaysPass.desc).map (fun d => d.parameters.length) = some 1 := ⟨by decide, by decide, by decide +kernel⟩
theorem wm_X7_264 : (Cond.methodLink RX7 264 yX0_letDaysPass) ∈ gW := gW_of (tb_5 (List.mem_of_getElem? (i := 46) (by decide +kernel))) (by decide +kernel)
theorem wi_X0_letDaysPass : (Cond.instanceMethod yX0_letDaysPass) ∈ gW := gW_of (tb_5 (List.mem_of_getElem? (i := 47) (by decide +kernel))) (by decide +kernel)
theorem ws_X0_letDaysPass : (Cond.selects yX0_letDaysPass.cls yX0_letDaysPass yX0_letDaysPass) ∈ gW := gW_of (tb_5 (List.mem_of_getElem? (i := 48) (by decide +kernel))) (by decide +kernel)
theorem kX7_264 : xVk RX7 264 yX0_letDaysPass cX0_letDaysPass 2 (some .long) 1 0 := ⟨wm_X7_264, wi_X0_letDaysPass, ws_X0_letDaysPass, wz_X0, wc_X0_letDaysPass, pd_X0_letDaysPass, TX0, 8, rfl⟩
theorem wc_X0_faultOfNextStage : (Cond.code yX0_faultOfNextStage cX0_faultOfNextStage 1 (some .int)) ∈ gW := gW_of (tb_5 (List.mem_of_getElem? (i := 64) (by decide +kernel))) (by decide +kernel)
theorem pd_X0_faultOfNextStage : yX0_faultOfNextStage.cls ≠ "java/lang/invoke/MethodHandle" ∧ yX0_faultOfNextStage.cls ≠ "java/lang/invoke/VarHandle" ∧ (parseMethodDescriptor yX0_faultOfNextStage.desc).map (fun d => d.parameters.length) = some 0 := ⟨by decide, by decide, by decide +kernel⟩
theorem wm_X7_267 : (Cond.methodLink RX7 267 yX0_faultOfNextStage) ∈ gW := gW_of (tb_5 (List.mem_of_getElem? (i := 61) (by decide +kernel))) (by decide +kernel)
theorem wi_X0_faultOfNextStage : (Cond.instanceMethod yX0_faultOfNextStage) ∈ gW := gW_of (tb_5 (List.mem_of_getElem? (i := 62) (by decide +kernel))) (by decide +kernel)
theorem ws_X0_faultOfNextStage : (Cond.selects yX0_faultOfNextStage.cls yX0_faultOfNextStage yX0_faultOfNextStage) ∈ gW := gW_of (tb_5 (List.mem_of_getElem? (i := 63) (by decide +kernel))) (by decide +kernel)
theorem kX7_267 : xVk RX7 267 yX0_faultOfNextStage cX0_faultOfNextStage 1 (some .int) 0 0 := ⟨wm_X7_267, wi_X0_faultOfNextStage, ws_X0_faultOfNextStage, wz_X0, wc_X0_faultOfNextStage, pd_X0_faultOfNextStage, TX0, 8, rfl⟩
theorem wc_X0_enterNextStage : (Cond.code yX0_enterNextStage cX0_enterNextStage 1 none) ∈ gW := gW_of (tb_5 (List.mem_of_getElem? (i := 68) (by decide +kernel))) (by decide +kernel)
theorem pd_X0_enterNextStage : yX0_enterNextStage.cls ≠ "java/lang/invoke/MethodHandle" ∧ yX0_enterNextStage.cls ≠ "java/lang/invoke/VarHandle" ∧ (parseMethodDescriptor yX0_enterNextStage.desc).map (fun d => d.parameters.length) = some 0 := ⟨by decide, by decide, by decide +kernel⟩
theorem wm_X7_271 : (Cond.methodLink RX7 271 yX0_enterNextStage) ∈ gW := gW_of (tb_5 (List.mem_of_getElem? (i := 65) (by decide +kernel))) (by decide +kernel)
theorem wi_X0_enterNextStage : (Cond.instanceMethod yX0_enterNextStage) ∈ gW := gW_of (tb_5 (List.mem_of_getElem? (i := 66) (by decide +kernel))) (by decide +kernel)
theorem ws_X0_enterNextStage : (Cond.selects yX0_enterNextStage.cls yX0_enterNextStage yX0_enterNextStage) ∈ gW := gW_of (tb_5 (List.mem_of_getElem? (i := 67) (by decide +kernel))) (by decide +kernel)
theorem kX7_271 : xVk RX7 271 yX0_enterNextStage cX0_enterNextStage 1 none 0 0 := ⟨wm_X7_271, wi_X0_enterNextStage, ws_X0_enterNextStage, wz_X0, wc_X0_enterNextStage, pd_X0_enterNextStage, TX0, 8, rfl⟩
theorem wc_X0_numberOfAccount : (Cond.code yX0_numberOfAccount cX0_numberOfAccount 2 (some .long)) ∈ gW := gW_of (tb_5 (List.mem_of_getElem? (i := 79) (by decide +kernel))) (by decide +kernel)
theorem pd_X0_numberOfAccount : yX0_numberOfAccount.cls ≠ "java/lang/invoke/MethodHandle" ∧ yX0_numberOfAccount.cls ≠ "java/lang/invoke/VarHandle" ∧ (parseMethodDescriptor yX0_numberOfAccount.desc).map (fun d => d.parameters.length) = some 1 := ⟨by decide, by decide, by decide +kernel⟩
theorem wm_X7_274 : (Cond.methodLink RX7 274 yX0_numberOfAccount) ∈ gW := gW_of (tb_5 (List.mem_of_getElem? (i := 76) (by decide +kernel))) (by decide +kernel)
theorem wi_X0_numberOfAccount : (Cond.instanceMethod yX0_numberOfAccount) ∈ gW := gW_of (tb_5 (List.mem_of_getElem? (i := 77) (by decide +kernel))) (by decide +kernel)
theorem ws_X0_numberOfAccount : (Cond.selects yX0_numberOfAccount.cls yX0_numberOfAccount yX0_numberOfAccount) ∈ gW := gW_of (tb_5 (List.mem_of_getElem? (i := 78) (by decide +kernel))) (by decide +kernel)
theorem kX7_274 : xVk RX7 274 yX0_numberOfAccount cX0_numberOfAccount 2 (some .long) 1 0 := ⟨wm_X7_274, wi_X0_numberOfAccount, ws_X0_numberOfAccount, wz_X0, wc_X0_numberOfAccount, pd_X0_numberOfAccount, TX0, 8, rfl⟩
theorem w_fieldLink_RX7_277_ArbitrationFees_Accounts_journal_LArbitrationFees_Journal_ : (Cond.fieldLink RX7 277 "ArbitrationFees$Accounts" "journal" "LArbitrationFees$Journal;") ∈ gW := gW_of (tb_1 (List.mem_of_getElem? (i := 176) (by decide +kernel))) (by decide +kernel)
theorem fX7_277 : xFl RX7 277 0 3 (.object "ArbitrationFees$Journal") true := ⟨RX0, TX0, 8, tyX0, rfl, inX0, by decide, w_fieldLink_RX7_277_ArbitrationFees_Accounts_journal_LArbitrationFees_Journal_, rfl, tyX0_ok, nmX0, rfl, by decide +kernel⟩
theorem wc_X3_has : (Cond.code yX3_has cX3_has 2 (some .boolean)) ∈ gW := gW_of (tb_5 (List.mem_of_getElem? (i := 103) (by decide +kernel))) (by decide +kernel)
theorem pd_X3_has : yX3_has.cls ≠ "java/lang/invoke/MethodHandle" ∧ yX3_has.cls ≠ "java/lang/invoke/VarHandle" ∧ (parseMethodDescriptor yX3_has.desc).map (fun d => d.parameters.length) = some 1 := ⟨by decide, by decide, by decide +kernel⟩
theorem wm_X7_281 : (Cond.methodLink RX7 281 yX3_has) ∈ gW := gW_of (tb_5 (List.mem_of_getElem? (i := 100) (by decide +kernel))) (by decide +kernel)
theorem wi_X3_has : (Cond.instanceMethod yX3_has) ∈ gW := gW_of (tb_5 (List.mem_of_getElem? (i := 101) (by decide +kernel))) (by decide +kernel)
theorem ws_X3_has : (Cond.selects yX3_has.cls yX3_has yX3_has) ∈ gW := gW_of (tb_5 (List.mem_of_getElem? (i := 102) (by decide +kernel))) (by decide +kernel)
theorem kX7_281 : xVk RX7 281 yX3_has cX3_has 2 (some .boolean) 1 3 := ⟨wm_X7_281, wi_X3_has, ws_X3_has, wz_X3, wc_X3_has, pd_X3_has, TX3, 3, rfl⟩
theorem w_fieldLink_RX7_288_ArbitrationFees_Journal_kinds_I_ : (Cond.fieldLink RX7 288 "ArbitrationFees$Journal" "kinds" "[I") ∈ gW := gW_of (tb_1 (List.mem_of_getElem? (i := 148) (by decide +kernel))) (by decide +kernel)
theorem fX7_288 : xFl RX7 288 3 1 (.array .int) true := ⟨RX3, TX3, 3, tyX3, rfl, inX3, by decide, w_fieldLink_RX7_288_ArbitrationFees_Journal_kinds_I_, rfl, tyX3_ok, nmX3, rfl, by decide +kernel⟩
theorem w_fieldLink_RX7_284_ArbitrationFees_Journal_amounts_J_ : (Cond.fieldLink RX7 284 "ArbitrationFees$Journal" "amounts" "[J") ∈ gW := gW_of (tb_1 (List.mem_of_getElem? (i := 150) (by decide +kernel))) (by decide +kernel)
theorem fX7_284 : xFl RX7 284 3 2 (.array .long) true := ⟨RX3, TX3, 3, tyX3, rfl, inX3, by decide, w_fieldLink_RX7_284_ArbitrationFees_Journal_amounts_J_, rfl, tyX3_ok, nmX3, rfl, by decide +kernel⟩
theorem wc_X0_soughtBy : (Cond.code yX0_soughtBy cX0_soughtBy 5 (some .long)) ∈ gW := gW_of (tb_5 (List.mem_of_getElem? (i := 128) (by decide +kernel))) (by decide +kernel)
theorem pd_X0_soughtBy : yX0_soughtBy.cls ≠ "java/lang/invoke/MethodHandle" ∧ yX0_soughtBy.cls ≠ "java/lang/invoke/VarHandle" ∧ (parseMethodDescriptor yX0_soughtBy.desc).map (fun d => d.parameters.length) = some 1 := ⟨by decide, by decide, by decide +kernel⟩
theorem wm_X7_291 : (Cond.methodLink RX7 291 yX0_soughtBy) ∈ gW := gW_of (tb_5 (List.mem_of_getElem? (i := 125) (by decide +kernel))) (by decide +kernel)
theorem wi_X0_soughtBy : (Cond.instanceMethod yX0_soughtBy) ∈ gW := gW_of (tb_5 (List.mem_of_getElem? (i := 126) (by decide +kernel))) (by decide +kernel)
theorem ws_X0_soughtBy : (Cond.selects yX0_soughtBy.cls yX0_soughtBy yX0_soughtBy) ∈ gW := gW_of (tb_5 (List.mem_of_getElem? (i := 127) (by decide +kernel))) (by decide +kernel)
theorem kX7_291 : xVk RX7 291 yX0_soughtBy cX0_soughtBy 5 (some .long) 1 0 := ⟨wm_X7_291, wi_X0_soughtBy, ws_X0_soughtBy, wz_X0, wc_X0_soughtBy, pd_X0_soughtBy, TX0, 8, rfl⟩
theorem wc_X0_awardedTo : (Cond.code yX0_awardedTo cX0_awardedTo 5 (some .long)) ∈ gW := gW_of (tb_5 (List.mem_of_getElem? (i := 137) (by decide +kernel))) (by decide +kernel)
theorem pd_X0_awardedTo : yX0_awardedTo.cls ≠ "java/lang/invoke/MethodHandle" ∧ yX0_awardedTo.cls ≠ "java/lang/invoke/VarHandle" ∧ (parseMethodDescriptor yX0_awardedTo.desc).map (fun d => d.parameters.length) = some 1 := ⟨by decide, by decide, by decide +kernel⟩
theorem wm_X7_297 : (Cond.methodLink RX7 297 yX0_awardedTo) ∈ gW := gW_of (tb_5 (List.mem_of_getElem? (i := 134) (by decide +kernel))) (by decide +kernel)
theorem wi_X0_awardedTo : (Cond.instanceMethod yX0_awardedTo) ∈ gW := gW_of (tb_5 (List.mem_of_getElem? (i := 135) (by decide +kernel))) (by decide +kernel)
theorem ws_X0_awardedTo : (Cond.selects yX0_awardedTo.cls yX0_awardedTo yX0_awardedTo) ∈ gW := gW_of (tb_5 (List.mem_of_getElem? (i := 136) (by decide +kernel))) (by decide +kernel)
theorem kX7_297 : xVk RX7 297 yX0_awardedTo cX0_awardedTo 5 (some .long) 1 0 := ⟨wm_X7_297, wi_X0_awardedTo, ws_X0_awardedTo, wz_X0, wc_X0_awardedTo, pd_X0_awardedTo, TX0, 8, rfl⟩
theorem w_classLink_RX7_294_java_lang_ArithmeticException_ : (Cond.classLink RX7 294 "java/lang/ArithmeticException") ∈ gW := gW_of (tb_5 (List.mem_of_getElem? (i := 129) (by decide +kernel))) (by decide +kernel)
theorem w_initialized_java_lang_ArithmeticException_ : (Cond.initialized "java/lang/ArithmeticException") ∈ gW := gW_of (tb_1 (List.mem_of_getElem? (i := 22) (by decide +kernel))) (by decide +kernel)
theorem w_methodLink_RX7_296_java_lang_ArithmeticException_init_V_ : (Cond.methodLink RX7 296 ⟨"java/lang/ArithmeticException", "<init>", "()V"⟩) ∈ gW := gW_of (tb_5 (List.mem_of_getElem? (i := 130) (by decide +kernel))) (by decide +kernel)
theorem tX7_294 : xTk RX7 294 296 6 := ⟨w_classLink_RX7_294_java_lang_ArithmeticException_, w_initialized_java_lang_ArithmeticException_, w_methodLink_RX7_296_java_lang_ArithmeticException_init_V_⟩
theorem w_fieldLink_RX7_26_ArbitrationFees_input_LArbitrationFees_Text_ : (Cond.fieldLink RX7 26 "ArbitrationFees" "input" "LArbitrationFees$Text;") ∈ gW := gW_of (tb_2 (List.mem_of_getElem? (i := 27) (by decide +kernel))) (by decide +kernel)
theorem fX7_26 : xFl RX7 26 7 3 (.object "ArbitrationFees$Text") true := ⟨RX7, TX7, 10, tyX7, rfl, inX7, by decide, w_fieldLink_RX7_26_ArbitrationFees_input_LArbitrationFees_Text_, rfl, tyX7_ok, nmX7, rfl, by decide +kernel⟩
theorem w_fieldLink_RX7_300_ArbitrationFees_Text_length_I_ : (Cond.fieldLink RX7 300 "ArbitrationFees$Text" "length" "I") ∈ gW := gW_of (tb_1 (List.mem_of_getElem? (i := 209) (by decide +kernel))) (by decide +kernel)
theorem fX7_300 : xFl RX7 300 6 0 .int false := ⟨RX6, TX6, 9, tyX6, rfl, inX6, by decide, w_fieldLink_RX7_300_ArbitrationFees_Text_length_I_, rfl, tyX6_ok, nmX6, rfl, by decide +kernel⟩
theorem wc_X6_addOne : (Cond.code yX6_addOne cX6_addOne 2 (some .int)) ∈ gW := gW_of (tb_5 (List.mem_of_getElem? (i := 148) (by decide +kernel))) (by decide +kernel)
theorem pd_X6_addOne : yX6_addOne.cls ≠ "java/lang/invoke/MethodHandle" ∧ yX6_addOne.cls ≠ "java/lang/invoke/VarHandle" ∧ (parseMethodDescriptor yX6_addOne.desc).map (fun d => d.parameters.length) = some 1 := ⟨by decide, by decide, by decide +kernel⟩
theorem wm_X7_301 : (Cond.methodLink RX7 301 yX6_addOne) ∈ gW := gW_of (tb_5 (List.mem_of_getElem? (i := 145) (by decide +kernel))) (by decide +kernel)
theorem wi_X6_addOne : (Cond.instanceMethod yX6_addOne) ∈ gW := gW_of (tb_5 (List.mem_of_getElem? (i := 146) (by decide +kernel))) (by decide +kernel)
theorem ws_X6_addOne : (Cond.selects yX6_addOne.cls yX6_addOne yX6_addOne) ∈ gW := gW_of (tb_5 (List.mem_of_getElem? (i := 147) (by decide +kernel))) (by decide +kernel)
theorem kX7_301 : xVk RX7 301 yX6_addOne cX6_addOne 2 (some .int) 1 6 := ⟨wm_X7_301, wi_X6_addOne, ws_X6_addOne, wz_X6, wc_X6_addOne, pd_X6_addOne, TX6, 9, rfl⟩
theorem w_fieldLink_RX7_347_ArbitrationFees_Text_firsts_I_ : (Cond.fieldLink RX7 347 "ArbitrationFees$Text" "firsts" "[I") ∈ gW := gW_of (tb_1 (List.mem_of_getElem? (i := 219) (by decide +kernel))) (by decide +kernel)
theorem fX7_347 : xFl RX7 347 6 6 (.array .int) true := ⟨RX6, TX6, 9, tyX6, rfl, inX6, by decide, w_fieldLink_RX7_347_ArbitrationFees_Text_firsts_I_, rfl, tyX6_ok, nmX6, rfl, by decide +kernel⟩
theorem w_fieldLink_RX7_350_ArbitrationFees_Text_seconds_I_ : (Cond.fieldLink RX7 350 "ArbitrationFees$Text" "seconds" "[I") ∈ gW := gW_of (tb_1 (List.mem_of_getElem? (i := 221) (by decide +kernel))) (by decide +kernel)
theorem fX7_350 : xFl RX7 350 6 7 (.array .int) true := ⟨RX6, TX6, 9, tyX6, rfl, inX6, by decide, w_fieldLink_RX7_350_ArbitrationFees_Text_seconds_I_, rfl, tyX6_ok, nmX6, rfl, by decide +kernel⟩
theorem w_fieldLink_RX7_353_ArbitrationFees_Text_amounts_I_ : (Cond.fieldLink RX7 353 "ArbitrationFees$Text" "amounts" "[I") ∈ gW := gW_of (tb_1 (List.mem_of_getElem? (i := 223) (by decide +kernel))) (by decide +kernel)
theorem fX7_353 : xFl RX7 353 6 8 (.array .int) true := ⟨RX6, TX6, 9, tyX6, rfl, inX6, by decide, w_fieldLink_RX7_353_ArbitrationFees_Text_amounts_I_, rfl, tyX6_ok, nmX6, rfl, by decide +kernel⟩
theorem w_fieldLink_RX7_355_ArbitrationFees_Text_kinds_I_ : (Cond.fieldLink RX7 355 "ArbitrationFees$Text" "kinds" "[I") ∈ gW := gW_of (tb_1 (List.mem_of_getElem? (i := 217) (by decide +kernel))) (by decide +kernel)
theorem fX7_355 : xFl RX7 355 6 5 (.array .int) true := ⟨RX6, TX6, 9, tyX6, rfl, inX6, by decide, w_fieldLink_RX7_355_ArbitrationFees_Text_kinds_I_, rfl, tyX6_ok, nmX6, rfl, by decide +kernel⟩
theorem w_fieldLink_RX7_328_ArbitrationFees_Text_count_I_ : (Cond.fieldLink RX7 328 "ArbitrationFees$Text" "count" "I") ∈ gW := gW_of (tb_1 (List.mem_of_getElem? (i := 215) (by decide +kernel))) (by decide +kernel)
theorem fX7_328 : xFl RX7 328 6 4 .int false := ⟨RX6, TX6, 9, tyX6, rfl, inX6, by decide, w_fieldLink_RX7_328_ArbitrationFees_Text_count_I_, rfl, tyX6_ok, nmX6, rfl, by decide +kernel⟩
theorem wc_X7_faultOfCommand : (Cond.code yX7_faultOfCommand cX7_faultOfCommand 6 (some .int)) ∈ gW := gW_of (tb_5 (List.mem_of_getElem? (i := 193) (by decide +kernel))) (by decide +kernel)
theorem pd_X7_faultOfCommand : yX7_faultOfCommand.cls ≠ "java/lang/invoke/MethodHandle" ∧ yX7_faultOfCommand.cls ≠ "java/lang/invoke/VarHandle" ∧ (parseMethodDescriptor yX7_faultOfCommand.desc).map (fun d => d.parameters.length) = some 3 := ⟨by decide, by decide, by decide +kernel⟩
theorem wm_X7_339 : (Cond.methodLink RX7 339 yX7_faultOfCommand) ∈ gW := gW_of (tb_5 (List.mem_of_getElem? (i := 191) (by decide +kernel))) (by decide +kernel)
theorem wt_X7_faultOfCommand : (Cond.static yX7_faultOfCommand) ∈ gW := gW_of (tb_5 (List.mem_of_getElem? (i := 192) (by decide +kernel))) (by decide +kernel)
theorem kX7_339 : xSk RX7 339 yX7_faultOfCommand cX7_faultOfCommand 6 (some .int) 3 := ⟨wm_X7_339, wt_X7_faultOfCommand, wz_X7, wc_X7_faultOfCommand, pd_X7_faultOfCommand⟩
theorem wc_X7_perform : (Cond.code yX7_perform cX7_perform 6 none) ∈ gW := gW_of (tb_5 (List.mem_of_getElem? (i := 196) (by decide +kernel))) (by decide +kernel)
theorem pd_X7_perform : yX7_perform.cls ≠ "java/lang/invoke/MethodHandle" ∧ yX7_perform.cls ≠ "java/lang/invoke/VarHandle" ∧ (parseMethodDescriptor yX7_perform.desc).map (fun d => d.parameters.length) = some 3 := ⟨by decide, by decide, by decide +kernel⟩
theorem wm_X7_343 : (Cond.methodLink RX7 343 yX7_perform) ∈ gW := gW_of (tb_5 (List.mem_of_getElem? (i := 194) (by decide +kernel))) (by decide +kernel)
theorem wt_X7_perform : (Cond.static yX7_perform) ∈ gW := gW_of (tb_5 (List.mem_of_getElem? (i := 195) (by decide +kernel))) (by decide +kernel)
theorem kX7_343 : xSk RX7 343 yX7_perform cX7_perform 6 none 3 := ⟨wm_X7_343, wt_X7_perform, wz_X7, wc_X7_perform, pd_X7_perform⟩
theorem wc_X6_parseAll : (Cond.code yX6_parseAll cX6_parseAll 2 (some .boolean)) ∈ gW := gW_of (tb_5 (List.mem_of_getElem? (i := 159) (by decide +kernel))) (by decide +kernel)
theorem pd_X6_parseAll : yX6_parseAll.cls ≠ "java/lang/invoke/MethodHandle" ∧ yX6_parseAll.cls ≠ "java/lang/invoke/VarHandle" ∧ (parseMethodDescriptor yX6_parseAll.desc).map (fun d => d.parameters.length) = some 0 := ⟨by decide, by decide, by decide +kernel⟩
theorem wm_X7_304 : (Cond.methodLink RX7 304 yX6_parseAll) ∈ gW := gW_of (tb_5 (List.mem_of_getElem? (i := 156) (by decide +kernel))) (by decide +kernel)
theorem wi_X6_parseAll : (Cond.instanceMethod yX6_parseAll) ∈ gW := gW_of (tb_5 (List.mem_of_getElem? (i := 157) (by decide +kernel))) (by decide +kernel)
theorem ws_X6_parseAll : (Cond.selects yX6_parseAll.cls yX6_parseAll yX6_parseAll) ∈ gW := gW_of (tb_5 (List.mem_of_getElem? (i := 158) (by decide +kernel))) (by decide +kernel)
theorem kX7_304 : xVk RX7 304 yX6_parseAll cX6_parseAll 2 (some .boolean) 0 6 := ⟨wm_X7_304, wi_X6_parseAll, ws_X6_parseAll, wz_X6, wc_X6_parseAll, pd_X6_parseAll, TX6, 9, rfl⟩
theorem wc_X6_empty : (Cond.code yX6_empty cX6_empty 1 none) ∈ gW := gW_of (tb_5 (List.mem_of_getElem? (i := 187) (by decide +kernel))) (by decide +kernel)
theorem pd_X6_empty : yX6_empty.cls ≠ "java/lang/invoke/MethodHandle" ∧ yX6_empty.cls ≠ "java/lang/invoke/VarHandle" ∧ (parseMethodDescriptor yX6_empty.desc).map (fun d => d.parameters.length) = some 0 := ⟨by decide, by decide, by decide +kernel⟩
theorem wm_X7_308 : (Cond.methodLink RX7 308 yX6_empty) ∈ gW := gW_of (tb_5 (List.mem_of_getElem? (i := 184) (by decide +kernel))) (by decide +kernel)
theorem wi_X6_empty : (Cond.instanceMethod yX6_empty) ∈ gW := gW_of (tb_5 (List.mem_of_getElem? (i := 185) (by decide +kernel))) (by decide +kernel)
theorem ws_X6_empty : (Cond.selects yX6_empty.cls yX6_empty yX6_empty) ∈ gW := gW_of (tb_5 (List.mem_of_getElem? (i := 186) (by decide +kernel))) (by decide +kernel)
theorem kX7_308 : xVk RX7 308 yX6_empty cX6_empty 1 none 0 6 := ⟨wm_X7_308, wi_X6_empty, ws_X6_empty, wz_X6, wc_X6_empty, pd_X6_empty, TX6, 9, rfl⟩
theorem wc_X7_performAll : (Cond.code yX7_performAll cX7_performAll 4 (some .int)) ∈ gW := gW_of (tb_5 (List.mem_of_getElem? (i := 190) (by decide +kernel))) (by decide +kernel)
theorem pd_X7_performAll : yX7_performAll.cls ≠ "java/lang/invoke/MethodHandle" ∧ yX7_performAll.cls ≠ "java/lang/invoke/VarHandle" ∧ (parseMethodDescriptor yX7_performAll.desc).map (fun d => d.parameters.length) = some 2 := ⟨by decide, by decide, by decide +kernel⟩
theorem wm_X7_318 : (Cond.methodLink RX7 318 yX7_performAll) ∈ gW := gW_of (tb_5 (List.mem_of_getElem? (i := 188) (by decide +kernel))) (by decide +kernel)
theorem wt_X7_performAll : (Cond.static yX7_performAll) ∈ gW := gW_of (tb_5 (List.mem_of_getElem? (i := 189) (by decide +kernel))) (by decide +kernel)
theorem kX7_318 : xSk RX7 318 yX7_performAll cX7_performAll 4 (some .int) 2 := ⟨wm_X7_318, wt_X7_performAll, wz_X7, wc_X7_performAll, pd_X7_performAll⟩
theorem w_fieldLink_RX7_311_ArbitrationFees_Text_position_I_ : (Cond.fieldLink RX7 311 "ArbitrationFees$Text" "position" "I") ∈ gW := gW_of (tb_1 (List.mem_of_getElem? (i := 212) (by decide +kernel))) (by decide +kernel)
theorem fX7_311 : xFl RX7 311 6 2 .int false := ⟨RX6, TX6, 9, tyX6, rfl, inX6, by decide, w_fieldLink_RX7_311_ArbitrationFees_Text_position_I_, rfl, tyX6_ok, nmX6, rfl, by decide +kernel⟩
theorem w_fieldLink_RX7_51_ArbitrationFees_keptErrorPosition_I_ : (Cond.fieldLink RX7 51 "ArbitrationFees" "keptErrorPosition" "I") ∈ gW := gW_of (tb_2 (List.mem_of_getElem? (i := 33) (by decide +kernel))) (by decide +kernel)
theorem fX7_51 : xFl RX7 51 7 9 .int false := ⟨RX7, TX7, 10, tyX7, rfl, inX7, by decide, w_fieldLink_RX7_51_ArbitrationFees_keptErrorPosition_I_, rfl, tyX7_ok, nmX7, rfl, by decide +kernel⟩
theorem w_fieldLink_RX7_16_ArbitrationFees_saved_LArbitrationFees_Accounts_ : (Cond.fieldLink RX7 16 "ArbitrationFees" "saved" "LArbitrationFees$Accounts;") ∈ gW := gW_of (tb_2 (List.mem_of_getElem? (i := 25) (by decide +kernel))) (by decide +kernel)
theorem fX7_16 : xFl RX7 16 7 1 (.object "ArbitrationFees$Accounts") true := ⟨RX7, TX7, 10, tyX7, rfl, inX7, by decide, w_fieldLink_RX7_16_ArbitrationFees_saved_LArbitrationFees_Accounts_, rfl, tyX7_ok, nmX7, rfl, by decide +kernel⟩
theorem w_fieldLink_RX7_37_ArbitrationFees_isSaved_Z_ : (Cond.fieldLink RX7 37 "ArbitrationFees" "isSaved" "Z") ∈ gW := gW_of (tb_2 (List.mem_of_getElem? (i := 29) (by decide +kernel))) (by decide +kernel)
theorem fX7_37 : xFl RX7 37 7 5 .boolean false := ⟨RX7, TX7, 10, tyX7, rfl, inX7, by decide, w_fieldLink_RX7_37_ArbitrationFees_isSaved_Z_, rfl, tyX7_ok, nmX7, rfl, by decide +kernel⟩
theorem w_fieldLink_RX7_329_ArbitrationFees_Claims_count_I_ : (Cond.fieldLink RX7 329 "ArbitrationFees$Claims" "count" "I") ∈ gW := gW_of (tb_1 (List.mem_of_getElem? (i := 82) (by decide +kernel))) (by decide +kernel)
theorem fX7_329 : xFl RX7 329 1 0 .int false := ⟨RX1, TX1, 7, tyX1, rfl, inX1, by decide, w_fieldLink_RX7_329_ArbitrationFees_Claims_count_I_, rfl, tyX1_ok, nmX1, rfl, by decide +kernel⟩
theorem w_fieldLink_RX8_7_ArbitrationFeesModel_s_J_ : (Cond.fieldLink RX8 7 "ArbitrationFeesModel" "s" "[J") ∈ gW := gW_of (tb_5 (List.mem_of_getElem? (i := 236) (by decide +kernel))) (by decide +kernel)
theorem fX8_7 : xFl RX8 7 8 1 (.array .long) true := ⟨RX8, TX8, 19, tyX8, rfl, inX8, by decide, w_fieldLink_RX8_7_ArbitrationFeesModel_s_J_, rfl, tyX8_ok, nmX8, rfl, by decide +kernel⟩
theorem w_constantLong_RX8_45_400 : (Cond.constantLong RX8 45 400) ∈ gW := gW_of (tb_5 (List.mem_of_getElem? (i := 228) (by decide +kernel))) (by decide +kernel)
theorem w_constantLong_RX8_47_600 : (Cond.constantLong RX8 47 600) ∈ gW := gW_of (tb_5 (List.mem_of_getElem? (i := 229) (by decide +kernel))) (by decide +kernel)
theorem w_constantLong_RX8_49_900 : (Cond.constantLong RX8 49 900) ∈ gW := gW_of (tb_5 (List.mem_of_getElem? (i := 230) (by decide +kernel))) (by decide +kernel)
theorem w_constantLong_RX8_51_1000 : (Cond.constantLong RX8 51 1000) ∈ gW := gW_of (tb_5 (List.mem_of_getElem? (i := 231) (by decide +kernel))) (by decide +kernel)
theorem w_constantLong_RX8_53_500 : (Cond.constantLong RX8 53 500) ∈ gW := gW_of (tb_5 (List.mem_of_getElem? (i := 232) (by decide +kernel))) (by decide +kernel)
theorem w_constantLong_RX8_55_250 : (Cond.constantLong RX8 55 250) ∈ gW := gW_of (tb_5 (List.mem_of_getElem? (i := 233) (by decide +kernel))) (by decide +kernel)
theorem w_constantLong_RX8_57_100 : (Cond.constantLong RX8 57 100) ∈ gW := gW_of (tb_5 (List.mem_of_getElem? (i := 234) (by decide +kernel))) (by decide +kernel)
theorem w_fieldLink_RX8_42_ArbitrationFeesModel_thrown_I_ : (Cond.fieldLink RX8 42 "ArbitrationFeesModel" "thrown" "I") ∈ gW := gW_of (tb_5 (List.mem_of_getElem? (i := 235) (by decide +kernel))) (by decide +kernel)
theorem fX8_42 : xFl RX8 42 8 0 .int false := ⟨RX8, TX8, 19, tyX8, rfl, inX8, by decide, w_fieldLink_RX8_42_ArbitrationFeesModel_thrown_I_, rfl, tyX8_ok, nmX8, rfl, by decide +kernel⟩
theorem wz_X8 : (Cond.initialized RX8) ∈ gW := gW_of (tb_1 (List.mem_of_getElem? (i := 9) (by decide +kernel))) (by decide +kernel)
theorem wc_X8_parties : (Cond.code yX8_parties cX8_parties 1 (some .int)) ∈ gW := gW_of (tb_6 (List.mem_of_getElem? (i := 64) (by decide +kernel))) (by decide +kernel)
theorem pd_X8_parties : yX8_parties.cls ≠ "java/lang/invoke/MethodHandle" ∧ yX8_parties.cls ≠ "java/lang/invoke/VarHandle" ∧ (parseMethodDescriptor yX8_parties.desc).map (fun d => d.parameters.length) = some 0 := ⟨by decide, by decide, by decide +kernel⟩
theorem wm_X8_59 : (Cond.methodLink RX8 59 yX8_parties) ∈ gW := gW_of (tb_6 (List.mem_of_getElem? (i := 61) (by decide +kernel))) (by decide +kernel)
theorem wi_X8_parties : (Cond.instanceMethod yX8_parties) ∈ gW := gW_of (tb_6 (List.mem_of_getElem? (i := 63) (by decide +kernel))) (by decide +kernel)
theorem ws_X8_parties : (Cond.selects yX8_parties.cls yX8_parties yX8_parties) ∈ gW := gW_of (tb_sel (List.mem_of_getElem? (i := 19) (by decide +kernel))) (by decide +kernel)
theorem kX8_59 : xVk RX8 59 yX8_parties cX8_parties 1 (some .int) 0 8 := ⟨wm_X8_59, wi_X8_parties, ws_X8_parties, wz_X8, wc_X8_parties, pd_X8_parties, TX8, 19, rfl⟩
theorem wc_X8_in : (Cond.code yX8_in cX8_in 3 (some .boolean)) ∈ gW := gW_of (tb_6 (List.mem_of_getElem? (i := 75) (by decide +kernel))) (by decide +kernel)
theorem pd_X8_in : yX8_in.cls ≠ "java/lang/invoke/MethodHandle" ∧ yX8_in.cls ≠ "java/lang/invoke/VarHandle" ∧ (parseMethodDescriptor yX8_in.desc).map (fun d => d.parameters.length) = some 3 := ⟨by decide, by decide, by decide +kernel⟩
theorem wm_X8_63 : (Cond.methodLink RX8 63 yX8_in) ∈ gW := gW_of (tb_6 (List.mem_of_getElem? (i := 73) (by decide +kernel))) (by decide +kernel)
theorem wt_X8_in : (Cond.static yX8_in) ∈ gW := gW_of (tb_6 (List.mem_of_getElem? (i := 74) (by decide +kernel))) (by decide +kernel)
theorem kX8_63 : xSk RX8 63 yX8_in cX8_in 3 (some .boolean) 3 := ⟨wm_X8_63, wt_X8_in, wz_X8, wc_X8_in, pd_X8_in⟩
theorem wc_X8_claims : (Cond.code yX8_claims cX8_claims 1 (some .int)) ∈ gW := gW_of (tb_6 (List.mem_of_getElem? (i := 131) (by decide +kernel))) (by decide +kernel)
theorem pd_X8_claims : yX8_claims.cls ≠ "java/lang/invoke/MethodHandle" ∧ yX8_claims.cls ≠ "java/lang/invoke/VarHandle" ∧ (parseMethodDescriptor yX8_claims.desc).map (fun d => d.parameters.length) = some 0 := ⟨by decide, by decide, by decide +kernel⟩
theorem wm_X8_67 : (Cond.methodLink RX8 67 yX8_claims) ∈ gW := gW_of (tb_6 (List.mem_of_getElem? (i := 128) (by decide +kernel))) (by decide +kernel)
theorem wi_X8_claims : (Cond.instanceMethod yX8_claims) ∈ gW := gW_of (tb_6 (List.mem_of_getElem? (i := 130) (by decide +kernel))) (by decide +kernel)
theorem ws_X8_claims : (Cond.selects yX8_claims.cls yX8_claims yX8_claims) ∈ gW := gW_of (tb_sel (List.mem_of_getElem? (i := 31) (by decide +kernel))) (by decide +kernel)
theorem kX8_67 : xVk RX8 67 yX8_claims cX8_claims 1 (some .int) 0 8 := ⟨wm_X8_67, wi_X8_claims, ws_X8_claims, wz_X8, wc_X8_claims, pd_X8_claims, TX8, 19, rfl⟩
theorem wc_X8_debts : (Cond.code yX8_debts cX8_debts 1 (some .int)) ∈ gW := gW_of (tb_6 (List.mem_of_getElem? (i := 180) (by decide +kernel))) (by decide +kernel)
theorem pd_X8_debts : yX8_debts.cls ≠ "java/lang/invoke/MethodHandle" ∧ yX8_debts.cls ≠ "java/lang/invoke/VarHandle" ∧ (parseMethodDescriptor yX8_debts.desc).map (fun d => d.parameters.length) = some 0 := ⟨by decide, by decide, by decide +kernel⟩
theorem wm_X8_70 : (Cond.methodLink RX8 70 yX8_debts) ∈ gW := gW_of (tb_6 (List.mem_of_getElem? (i := 177) (by decide +kernel))) (by decide +kernel)
theorem wi_X8_debts : (Cond.instanceMethod yX8_debts) ∈ gW := gW_of (tb_6 (List.mem_of_getElem? (i := 179) (by decide +kernel))) (by decide +kernel)
theorem ws_X8_debts : (Cond.selects yX8_debts.cls yX8_debts yX8_debts) ∈ gW := gW_of (tb_sel (List.mem_of_getElem? (i := 41) (by decide +kernel))) (by decide +kernel)
theorem kX8_70 : xVk RX8 70 yX8_debts cX8_debts 1 (some .int) 0 8 := ⟨wm_X8_70, wi_X8_debts, ws_X8_debts, wz_X8, wc_X8_debts, pd_X8_debts, TX8, 19, rfl⟩
theorem w_fieldLink_RX8_16_ArbitrationFeesModel_frame_J_ : (Cond.fieldLink RX8 16 "ArbitrationFeesModel" "frame" "[J") ∈ gW := gW_of (tb_5 (List.mem_of_getElem? (i := 238) (by decide +kernel))) (by decide +kernel)
theorem fX8_16 : xFl RX8 16 8 3 (.array .long) true := ⟨RX8, TX8, 19, tyX8, rfl, inX8, by decide, w_fieldLink_RX8_16_ArbitrationFeesModel_frame_J_, rfl, tyX8_ok, nmX8, rfl, by decide +kernel⟩
theorem w_fieldLink_RX8_73_ArbitrationFeesModel_kept_I_ : (Cond.fieldLink RX8 73 "ArbitrationFeesModel" "kept" "I") ∈ gW := gW_of (tb_6 (List.mem_of_getElem? (i := 0) (by decide +kernel))) (by decide +kernel)
theorem fX8_73 : xFl RX8 73 8 5 .int false := ⟨RX8, TX8, 19, tyX8, rfl, inX8, by decide, w_fieldLink_RX8_73_ArbitrationFeesModel_kept_I_, rfl, tyX8_ok, nmX8, rfl, by decide +kernel⟩
theorem w_fieldLink_RX8_19_ArbitrationFeesModel_history_J_ : (Cond.fieldLink RX8 19 "ArbitrationFeesModel" "history" "[J") ∈ gW := gW_of (tb_5 (List.mem_of_getElem? (i := 239) (by decide +kernel))) (by decide +kernel)
theorem fX8_19 : xFl RX8 19 8 4 (.array .long) true := ⟨RX8, TX8, 19, tyX8, rfl, inX8, by decide, w_fieldLink_RX8_19_ArbitrationFeesModel_history_J_, rfl, tyX8_ok, nmX8, rfl, by decide +kernel⟩
theorem wc_X8_empties : (Cond.code yX8_empties cX8_empties 2 none) ∈ gW := gW_of (tb_5 (List.mem_of_getElem? (i := 227) (by decide +kernel))) (by decide +kernel)
theorem pd_X8_empties : yX8_empties.cls ≠ "java/lang/invoke/MethodHandle" ∧ yX8_empties.cls ≠ "java/lang/invoke/VarHandle" ∧ (parseMethodDescriptor yX8_empties.desc).map (fun d => d.parameters.length) = some 0 := ⟨by decide, by decide, by decide +kernel⟩
theorem wm_X8_39 : (Cond.methodLink RX8 39 yX8_empties) ∈ gW := gW_of (tb_5 (List.mem_of_getElem? (i := 224) (by decide +kernel))) (by decide +kernel)
theorem wi_X8_empties : (Cond.instanceMethod yX8_empties) ∈ gW := gW_of (tb_5 (List.mem_of_getElem? (i := 226) (by decide +kernel))) (by decide +kernel)
theorem ws_X8_empties : (Cond.selects yX8_empties.cls yX8_empties yX8_empties) ∈ gW := gW_of (tb_sel (List.mem_of_getElem? (i := 18) (by decide +kernel))) (by decide +kernel)
theorem kX8_39 : xVk RX8 39 yX8_empties cX8_empties 2 none 0 8 := ⟨wm_X8_39, wi_X8_empties, ws_X8_empties, wz_X8, wc_X8_empties, pd_X8_empties, TX8, 19, rfl⟩
theorem wc_X8_remembers : (Cond.code yX8_remembers cX8_remembers 2 none) ∈ gW := gW_of (tb_6 (List.mem_of_getElem? (i := 72) (by decide +kernel))) (by decide +kernel)
theorem pd_X8_remembers : yX8_remembers.cls ≠ "java/lang/invoke/MethodHandle" ∧ yX8_remembers.cls ≠ "java/lang/invoke/VarHandle" ∧ (parseMethodDescriptor yX8_remembers.desc).map (fun d => d.parameters.length) = some 0 := ⟨by decide, by decide, by decide +kernel⟩
theorem wm_X8_76 : (Cond.methodLink RX8 76 yX8_remembers) ∈ gW := gW_of (tb_6 (List.mem_of_getElem? (i := 69) (by decide +kernel))) (by decide +kernel)
theorem wi_X8_remembers : (Cond.instanceMethod yX8_remembers) ∈ gW := gW_of (tb_6 (List.mem_of_getElem? (i := 71) (by decide +kernel))) (by decide +kernel)
theorem ws_X8_remembers : (Cond.selects yX8_remembers.cls yX8_remembers yX8_remembers) ∈ gW := gW_of (tb_sel (List.mem_of_getElem? (i := 20) (by decide +kernel))) (by decide +kernel)
theorem kX8_76 : xVk RX8 76 yX8_remembers cX8_remembers 2 none 0 8 := ⟨wm_X8_76, wi_X8_remembers, ws_X8_remembers, wz_X8, wc_X8_remembers, pd_X8_remembers, TX8, 19, rfl⟩
theorem wc_X8_fails : (Cond.code yX8_fails cX8_fails 2 (some .int)) ∈ gW := gW_of (tb_6 (List.mem_of_getElem? (i := 79) (by decide +kernel))) (by decide +kernel)
theorem pd_X8_fails : yX8_fails.cls ≠ "java/lang/invoke/MethodHandle" ∧ yX8_fails.cls ≠ "java/lang/invoke/VarHandle" ∧ (parseMethodDescriptor yX8_fails.desc).map (fun d => d.parameters.length) = some 1 := ⟨by decide, by decide, by decide +kernel⟩
theorem wm_X8_79 : (Cond.methodLink RX8 79 yX8_fails) ∈ gW := gW_of (tb_6 (List.mem_of_getElem? (i := 76) (by decide +kernel))) (by decide +kernel)
theorem wi_X8_fails : (Cond.instanceMethod yX8_fails) ∈ gW := gW_of (tb_6 (List.mem_of_getElem? (i := 78) (by decide +kernel))) (by decide +kernel)
theorem ws_X8_fails : (Cond.selects yX8_fails.cls yX8_fails yX8_fails) ∈ gW := gW_of (tb_sel (List.mem_of_getElem? (i := 21) (by decide +kernel))) (by decide +kernel)
theorem kX8_79 : xVk RX8 79 yX8_fails cX8_fails 2 (some .int) 1 8 := ⟨wm_X8_79, wi_X8_fails, ws_X8_fails, wz_X8, wc_X8_fails, pd_X8_fails, TX8, 19, rfl⟩
theorem wc_X8_keeps : (Cond.code yX8_keeps cX8_keeps 2 none) ∈ gW := gW_of (tb_6 (List.mem_of_getElem? (i := 83) (by decide +kernel))) (by decide +kernel)
theorem pd_X8_keeps : yX8_keeps.cls ≠ "java/lang/invoke/MethodHandle" ∧ yX8_keeps.cls ≠ "java/lang/invoke/VarHandle" ∧ (parseMethodDescriptor yX8_keeps.desc).map (fun d => d.parameters.length) = some 0 := ⟨by decide, by decide, by decide +kernel⟩
theorem wm_X8_83 : (Cond.methodLink RX8 83 yX8_keeps) ∈ gW := gW_of (tb_6 (List.mem_of_getElem? (i := 80) (by decide +kernel))) (by decide +kernel)
theorem wi_X8_keeps : (Cond.instanceMethod yX8_keeps) ∈ gW := gW_of (tb_6 (List.mem_of_getElem? (i := 82) (by decide +kernel))) (by decide +kernel)
theorem ws_X8_keeps : (Cond.selects yX8_keeps.cls yX8_keeps yX8_keeps) ∈ gW := gW_of (tb_sel (List.mem_of_getElem? (i := 22) (by decide +kernel))) (by decide +kernel)
theorem kX8_83 : xVk RX8 83 yX8_keeps cX8_keeps 2 none 0 8 := ⟨wm_X8_83, wi_X8_keeps, ws_X8_keeps, wz_X8, wc_X8_keeps, pd_X8_keeps, TX8, 19, rfl⟩
theorem wc_X8_sets : (Cond.code yX8_sets cX8_sets 4 (some .int)) ∈ gW := gW_of (tb_6 (List.mem_of_getElem? (i := 91) (by decide +kernel))) (by decide +kernel)
theorem pd_X8_sets : yX8_sets.cls ≠ "java/lang/invoke/MethodHandle" ∧ yX8_sets.cls ≠ "java/lang/invoke/VarHandle" ∧ (parseMethodDescriptor yX8_sets.desc).map (fun d => d.parameters.length) = some 2 := ⟨by decide, by decide, by decide +kernel⟩
theorem wm_X8_86 : (Cond.methodLink RX8 86 yX8_sets) ∈ gW := gW_of (tb_6 (List.mem_of_getElem? (i := 88) (by decide +kernel))) (by decide +kernel)
theorem wi_X8_sets : (Cond.instanceMethod yX8_sets) ∈ gW := gW_of (tb_6 (List.mem_of_getElem? (i := 90) (by decide +kernel))) (by decide +kernel)
theorem ws_X8_sets : (Cond.selects yX8_sets.cls yX8_sets yX8_sets) ∈ gW := gW_of (tb_sel (List.mem_of_getElem? (i := 23) (by decide +kernel))) (by decide +kernel)
theorem kX8_86 : xVk RX8 86 yX8_sets cX8_sets 4 (some .int) 2 8 := ⟨wm_X8_86, wi_X8_sets, ws_X8_sets, wz_X8, wc_X8_sets, pd_X8_sets, TX8, 19, rfl⟩
theorem wc_X8_claimAt : (Cond.code yX8_claimAt cX8_claimAt 3 (some .int)) ∈ gW := gW_of (tb_6 (List.mem_of_getElem? (i := 135) (by decide +kernel))) (by decide +kernel)
theorem pd_X8_claimAt : yX8_claimAt.cls ≠ "java/lang/invoke/MethodHandle" ∧ yX8_claimAt.cls ≠ "java/lang/invoke/VarHandle" ∧ (parseMethodDescriptor yX8_claimAt.desc).map (fun d => d.parameters.length) = some 2 := ⟨by decide, by decide, by decide +kernel⟩
theorem wm_X8_90 : (Cond.methodLink RX8 90 yX8_claimAt) ∈ gW := gW_of (tb_6 (List.mem_of_getElem? (i := 132) (by decide +kernel))) (by decide +kernel)
theorem wi_X8_claimAt : (Cond.instanceMethod yX8_claimAt) ∈ gW := gW_of (tb_6 (List.mem_of_getElem? (i := 134) (by decide +kernel))) (by decide +kernel)
theorem ws_X8_claimAt : (Cond.selects yX8_claimAt.cls yX8_claimAt yX8_claimAt) ∈ gW := gW_of (tb_sel (List.mem_of_getElem? (i := 32) (by decide +kernel))) (by decide +kernel)
theorem kX8_90 : xVk RX8 90 yX8_claimAt cX8_claimAt 3 (some .int) 2 8 := ⟨wm_X8_90, wi_X8_claimAt, ws_X8_claimAt, wz_X8, wc_X8_claimAt, pd_X8_claimAt, TX8, 19, rfl⟩
theorem w_constantLong_RX8_97_20000000 : (Cond.constantLong RX8 97 20000000) ∈ gW := gW_of (tb_6 (List.mem_of_getElem? (i := 150) (by decide +kernel))) (by decide +kernel)
theorem wc_X8_least : (Cond.code yX8_least cX8_least 4 (some .long)) ∈ gW := gW_of (tb_6 (List.mem_of_getElem? (i := 153) (by decide +kernel))) (by decide +kernel)
theorem pd_X8_least : yX8_least.cls ≠ "java/lang/invoke/MethodHandle" ∧ yX8_least.cls ≠ "java/lang/invoke/VarHandle" ∧ (parseMethodDescriptor yX8_least.desc).map (fun d => d.parameters.length) = some 2 := ⟨by decide, by decide, by decide +kernel⟩
theorem wm_X8_99 : (Cond.methodLink RX8 99 yX8_least) ∈ gW := gW_of (tb_6 (List.mem_of_getElem? (i := 151) (by decide +kernel))) (by decide +kernel)
theorem wt_X8_least : (Cond.static yX8_least) ∈ gW := gW_of (tb_6 (List.mem_of_getElem? (i := 152) (by decide +kernel))) (by decide +kernel)
theorem kX8_99 : xSk RX8 99 yX8_least cX8_least 4 (some .long) 2 := ⟨wm_X8_99, wt_X8_least, wz_X8, wc_X8_least, pd_X8_least⟩
theorem w_constantLong_RX8_95_5000000 : (Cond.constantLong RX8 95 5000000) ∈ gW := gW_of (tb_6 (List.mem_of_getElem? (i := 149) (by decide +kernel))) (by decide +kernel)
theorem w_constantLong_RX8_93_1000000 : (Cond.constantLong RX8 93 1000000) ∈ gW := gW_of (tb_6 (List.mem_of_getElem? (i := 148) (by decide +kernel))) (by decide +kernel)
theorem wc_X8_partOf : (Cond.code yX8_partOf cX8_partOf 10 (some .long)) ∈ gW := gW_of (tb_6 (List.mem_of_getElem? (i := 147) (by decide +kernel))) (by decide +kernel)
theorem pd_X8_partOf : yX8_partOf.cls ≠ "java/lang/invoke/MethodHandle" ∧ yX8_partOf.cls ≠ "java/lang/invoke/VarHandle" ∧ (parseMethodDescriptor yX8_partOf.desc).map (fun d => d.parameters.length) = some 2 := ⟨by decide, by decide, by decide +kernel⟩
theorem wm_X8_103 : (Cond.methodLink RX8 103 yX8_partOf) ∈ gW := gW_of (tb_6 (List.mem_of_getElem? (i := 144) (by decide +kernel))) (by decide +kernel)
theorem wi_X8_partOf : (Cond.instanceMethod yX8_partOf) ∈ gW := gW_of (tb_6 (List.mem_of_getElem? (i := 146) (by decide +kernel))) (by decide +kernel)
theorem ws_X8_partOf : (Cond.selects yX8_partOf.cls yX8_partOf yX8_partOf) ∈ gW := gW_of (tb_sel (List.mem_of_getElem? (i := 35) (by decide +kernel))) (by decide +kernel)
theorem kX8_103 : xVk RX8 103 yX8_partOf cX8_partOf 10 (some .long) 2 8 := ⟨wm_X8_103, wi_X8_partOf, ws_X8_partOf, wz_X8, wc_X8_partOf, pd_X8_partOf, TX8, 19, rfl⟩
theorem w_constantLong_RX8_107_10000 : (Cond.constantLong RX8 107 10000) ∈ gW := gW_of (tb_6 (List.mem_of_getElem? (i := 154) (by decide +kernel))) (by decide +kernel)
theorem wc_X8_feeOf : (Cond.code yX8_feeOf cX8_feeOf 4 (some .long)) ∈ gW := gW_of (tb_6 (List.mem_of_getElem? (i := 143) (by decide +kernel))) (by decide +kernel)
theorem pd_X8_feeOf : yX8_feeOf.cls ≠ "java/lang/invoke/MethodHandle" ∧ yX8_feeOf.cls ≠ "java/lang/invoke/VarHandle" ∧ (parseMethodDescriptor yX8_feeOf.desc).map (fun d => d.parameters.length) = some 2 := ⟨by decide, by decide, by decide +kernel⟩
theorem wm_X8_109 : (Cond.methodLink RX8 109 yX8_feeOf) ∈ gW := gW_of (tb_6 (List.mem_of_getElem? (i := 140) (by decide +kernel))) (by decide +kernel)
theorem wi_X8_feeOf : (Cond.instanceMethod yX8_feeOf) ∈ gW := gW_of (tb_6 (List.mem_of_getElem? (i := 142) (by decide +kernel))) (by decide +kernel)
theorem ws_X8_feeOf : (Cond.selects yX8_feeOf.cls yX8_feeOf yX8_feeOf) ∈ gW := gW_of (tb_sel (List.mem_of_getElem? (i := 34) (by decide +kernel))) (by decide +kernel)
theorem kX8_109 : xVk RX8 109 yX8_feeOf cX8_feeOf 4 (some .long) 2 8 := ⟨wm_X8_109, wi_X8_feeOf, ws_X8_feeOf, wz_X8, wc_X8_feeOf, pd_X8_feeOf, TX8, 19, rfl⟩
theorem wc_X8_disputed : (Cond.code yX8_disputed cX8_disputed 4 (some .long)) ∈ gW := gW_of (tb_6 (List.mem_of_getElem? (i := 127) (by decide +kernel))) (by decide +kernel)
theorem pd_X8_disputed : yX8_disputed.cls ≠ "java/lang/invoke/MethodHandle" ∧ yX8_disputed.cls ≠ "java/lang/invoke/VarHandle" ∧ (parseMethodDescriptor yX8_disputed.desc).map (fun d => d.parameters.length) = some 0 := ⟨by decide, by decide, by decide +kernel⟩
theorem wm_X8_112 : (Cond.methodLink RX8 112 yX8_disputed) ∈ gW := gW_of (tb_6 (List.mem_of_getElem? (i := 124) (by decide +kernel))) (by decide +kernel)
theorem wi_X8_disputed : (Cond.instanceMethod yX8_disputed) ∈ gW := gW_of (tb_6 (List.mem_of_getElem? (i := 126) (by decide +kernel))) (by decide +kernel)
theorem ws_X8_disputed : (Cond.selects yX8_disputed.cls yX8_disputed yX8_disputed) ∈ gW := gW_of (tb_sel (List.mem_of_getElem? (i := 30) (by decide +kernel))) (by decide +kernel)
theorem kX8_112 : xVk RX8 112 yX8_disputed cX8_disputed 4 (some .long) 0 8 := ⟨wm_X8_112, wi_X8_disputed, ws_X8_disputed, wz_X8, wc_X8_disputed, pd_X8_disputed, TX8, 19, rfl⟩
theorem wc_X8_tiersOf : (Cond.code yX8_tiersOf cX8_tiersOf 3 (some .long)) ∈ gW := gW_of (tb_6 (List.mem_of_getElem? (i := 139) (by decide +kernel))) (by decide +kernel)
theorem pd_X8_tiersOf : yX8_tiersOf.cls ≠ "java/lang/invoke/MethodHandle" ∧ yX8_tiersOf.cls ≠ "java/lang/invoke/VarHandle" ∧ (parseMethodDescriptor yX8_tiersOf.desc).map (fun d => d.parameters.length) = some 1 := ⟨by decide, by decide, by decide +kernel⟩
theorem wm_X8_116 : (Cond.methodLink RX8 116 yX8_tiersOf) ∈ gW := gW_of (tb_6 (List.mem_of_getElem? (i := 136) (by decide +kernel))) (by decide +kernel)
theorem wi_X8_tiersOf : (Cond.instanceMethod yX8_tiersOf) ∈ gW := gW_of (tb_6 (List.mem_of_getElem? (i := 138) (by decide +kernel))) (by decide +kernel)
theorem ws_X8_tiersOf : (Cond.selects yX8_tiersOf.cls yX8_tiersOf yX8_tiersOf) ∈ gW := gW_of (tb_sel (List.mem_of_getElem? (i := 33) (by decide +kernel))) (by decide +kernel)
theorem kX8_116 : xVk RX8 116 yX8_tiersOf cX8_tiersOf 3 (some .long) 1 8 := ⟨wm_X8_116, wi_X8_tiersOf, ws_X8_tiersOf, wz_X8, wc_X8_tiersOf, pd_X8_tiersOf, TX8, 19, rfl⟩
theorem w_constantLong_RX8_120_5000 : (Cond.constantLong RX8 120 5000) ∈ gW := gW_of (tb_6 (List.mem_of_getElem? (i := 155) (by decide +kernel))) (by decide +kernel)
theorem wc_X8_allFees : (Cond.code yX8_allFees cX8_allFees 1 (some .long)) ∈ gW := gW_of (tb_6 (List.mem_of_getElem? (i := 123) (by decide +kernel))) (by decide +kernel)
theorem pd_X8_allFees : yX8_allFees.cls ≠ "java/lang/invoke/MethodHandle" ∧ yX8_allFees.cls ≠ "java/lang/invoke/VarHandle" ∧ (parseMethodDescriptor yX8_allFees.desc).map (fun d => d.parameters.length) = some 0 := ⟨by decide, by decide, by decide +kernel⟩
theorem wm_X8_122 : (Cond.methodLink RX8 122 yX8_allFees) ∈ gW := gW_of (tb_6 (List.mem_of_getElem? (i := 120) (by decide +kernel))) (by decide +kernel)
theorem wi_X8_allFees : (Cond.instanceMethod yX8_allFees) ∈ gW := gW_of (tb_6 (List.mem_of_getElem? (i := 122) (by decide +kernel))) (by decide +kernel)
theorem ws_X8_allFees : (Cond.selects yX8_allFees.cls yX8_allFees yX8_allFees) ∈ gW := gW_of (tb_sel (List.mem_of_getElem? (i := 29) (by decide +kernel))) (by decide +kernel)
theorem kX8_122 : xVk RX8 122 yX8_allFees cX8_allFees 1 (some .long) 0 8 := ⟨wm_X8_122, wi_X8_allFees, ws_X8_allFees, wz_X8, wc_X8_allFees, pd_X8_allFees, TX8, 19, rfl⟩
theorem wc_X8_lostBy : (Cond.code yX8_lostBy cX8_lostBy 6 (some .long)) ∈ gW := gW_of (tb_6 (List.mem_of_getElem? (i := 159) (by decide +kernel))) (by decide +kernel)
theorem pd_X8_lostBy : yX8_lostBy.cls ≠ "java/lang/invoke/MethodHandle" ∧ yX8_lostBy.cls ≠ "java/lang/invoke/VarHandle" ∧ (parseMethodDescriptor yX8_lostBy.desc).map (fun d => d.parameters.length) = some 1 := ⟨by decide, by decide, by decide +kernel⟩
theorem wm_X8_125 : (Cond.methodLink RX8 125 yX8_lostBy) ∈ gW := gW_of (tb_6 (List.mem_of_getElem? (i := 156) (by decide +kernel))) (by decide +kernel)
theorem wi_X8_lostBy : (Cond.instanceMethod yX8_lostBy) ∈ gW := gW_of (tb_6 (List.mem_of_getElem? (i := 158) (by decide +kernel))) (by decide +kernel)
theorem ws_X8_lostBy : (Cond.selects yX8_lostBy.cls yX8_lostBy yX8_lostBy) ∈ gW := gW_of (tb_sel (List.mem_of_getElem? (i := 36) (by decide +kernel))) (by decide +kernel)
theorem kX8_125 : xVk RX8 125 yX8_lostBy cX8_lostBy 6 (some .long) 1 8 := ⟨wm_X8_125, wi_X8_lostBy, ws_X8_lostBy, wz_X8, wc_X8_lostBy, pd_X8_lostBy, TX8, 19, rfl⟩
theorem w_constantLong_RX8_129_2 : (Cond.constantLong RX8 129 2) ∈ gW := gW_of (tb_6 (List.mem_of_getElem? (i := 160) (by decide +kernel))) (by decide +kernel)
theorem wc_X8_weights : (Cond.code yX8_weights cX8_weights 5 (some .long)) ∈ gW := gW_of (tb_6 (List.mem_of_getElem? (i := 168) (by decide +kernel))) (by decide +kernel)
theorem pd_X8_weights : yX8_weights.cls ≠ "java/lang/invoke/MethodHandle" ∧ yX8_weights.cls ≠ "java/lang/invoke/VarHandle" ∧ (parseMethodDescriptor yX8_weights.desc).map (fun d => d.parameters.length) = some 1 := ⟨by decide, by decide, by decide +kernel⟩
theorem wm_X8_131 : (Cond.methodLink RX8 131 yX8_weights) ∈ gW := gW_of (tb_6 (List.mem_of_getElem? (i := 165) (by decide +kernel))) (by decide +kernel)
theorem wi_X8_weights : (Cond.instanceMethod yX8_weights) ∈ gW := gW_of (tb_6 (List.mem_of_getElem? (i := 167) (by decide +kernel))) (by decide +kernel)
theorem ws_X8_weights : (Cond.selects yX8_weights.cls yX8_weights yX8_weights) ∈ gW := gW_of (tb_sel (List.mem_of_getElem? (i := 38) (by decide +kernel))) (by decide +kernel)
theorem kX8_131 : xVk RX8 131 yX8_weights cX8_weights 5 (some .long) 1 8 := ⟨wm_X8_131, wi_X8_weights, ws_X8_weights, wz_X8, wc_X8_weights, pd_X8_weights, TX8, 19, rfl⟩
theorem wc_X8_shareOfSide : (Cond.code yX8_shareOfSide cX8_shareOfSide 8 (some .long)) ∈ gW := gW_of (tb_6 (List.mem_of_getElem? (i := 119) (by decide +kernel))) (by decide +kernel)
theorem pd_X8_shareOfSide : yX8_shareOfSide.cls ≠ "java/lang/invoke/MethodHandle" ∧ yX8_shareOfSide.cls ≠ "java/lang/invoke/VarHandle" ∧ (parseMethodDescriptor yX8_shareOfSide.desc).map (fun d => d.parameters.length) = some 1 := ⟨by decide, by decide, by decide +kernel⟩
theorem wm_X8_134 : (Cond.methodLink RX8 134 yX8_shareOfSide) ∈ gW := gW_of (tb_6 (List.mem_of_getElem? (i := 116) (by decide +kernel))) (by decide +kernel)
theorem wi_X8_shareOfSide : (Cond.instanceMethod yX8_shareOfSide) ∈ gW := gW_of (tb_6 (List.mem_of_getElem? (i := 118) (by decide +kernel))) (by decide +kernel)
theorem ws_X8_shareOfSide : (Cond.selects yX8_shareOfSide.cls yX8_shareOfSide yX8_shareOfSide) ∈ gW := gW_of (tb_sel (List.mem_of_getElem? (i := 28) (by decide +kernel))) (by decide +kernel)
theorem kX8_134 : xVk RX8 134 yX8_shareOfSide cX8_shareOfSide 8 (some .long) 1 8 := ⟨wm_X8_134, wi_X8_shareOfSide, ws_X8_shareOfSide, wz_X8, wc_X8_shareOfSide, pd_X8_shareOfSide, TX8, 19, rfl⟩
theorem wc_X8_split : (Cond.code yX8_split cX8_split 11 (some .long)) ∈ gW := gW_of (tb_6 (List.mem_of_getElem? (i := 164) (by decide +kernel))) (by decide +kernel)
theorem pd_X8_split : yX8_split.cls ≠ "java/lang/invoke/MethodHandle" ∧ yX8_split.cls ≠ "java/lang/invoke/VarHandle" ∧ (parseMethodDescriptor yX8_split.desc).map (fun d => d.parameters.length) = some 2 := ⟨by decide, by decide, by decide +kernel⟩
theorem wm_X8_137 : (Cond.methodLink RX8 137 yX8_split) ∈ gW := gW_of (tb_6 (List.mem_of_getElem? (i := 161) (by decide +kernel))) (by decide +kernel)
theorem wi_X8_split : (Cond.instanceMethod yX8_split) ∈ gW := gW_of (tb_6 (List.mem_of_getElem? (i := 163) (by decide +kernel))) (by decide +kernel)
theorem ws_X8_split : (Cond.selects yX8_split.cls yX8_split yX8_split) ∈ gW := gW_of (tb_sel (List.mem_of_getElem? (i := 37) (by decide +kernel))) (by decide +kernel)
theorem kX8_137 : xVk RX8 137 yX8_split cX8_split 11 (some .long) 2 8 := ⟨wm_X8_137, wi_X8_split, ws_X8_split, wz_X8, wc_X8_split, pd_X8_split, TX8, 19, rfl⟩
theorem wc_X8_debtAt : (Cond.code yX8_debtAt cX8_debtAt 3 (some .int)) ∈ gW := gW_of (tb_6 (List.mem_of_getElem? (i := 184) (by decide +kernel))) (by decide +kernel)
theorem pd_X8_debtAt : yX8_debtAt.cls ≠ "java/lang/invoke/MethodHandle" ∧ yX8_debtAt.cls ≠ "java/lang/invoke/VarHandle" ∧ (parseMethodDescriptor yX8_debtAt.desc).map (fun d => d.parameters.length) = some 2 := ⟨by decide, by decide, by decide +kernel⟩
theorem wm_X8_140 : (Cond.methodLink RX8 140 yX8_debtAt) ∈ gW := gW_of (tb_6 (List.mem_of_getElem? (i := 181) (by decide +kernel))) (by decide +kernel)
theorem wi_X8_debtAt : (Cond.instanceMethod yX8_debtAt) ∈ gW := gW_of (tb_6 (List.mem_of_getElem? (i := 183) (by decide +kernel))) (by decide +kernel)
theorem ws_X8_debtAt : (Cond.selects yX8_debtAt.cls yX8_debtAt yX8_debtAt) ∈ gW := gW_of (tb_sel (List.mem_of_getElem? (i := 42) (by decide +kernel))) (by decide +kernel)
theorem kX8_140 : xVk RX8 140 yX8_debtAt cX8_debtAt 3 (some .int) 2 8 := ⟨wm_X8_140, wi_X8_debtAt, ws_X8_debtAt, wz_X8, wc_X8_debtAt, pd_X8_debtAt, TX8, 19, rfl⟩
theorem wc_X8_find : (Cond.code yX8_find cX8_find 4 (some .int)) ∈ gW := gW_of (tb_6 (List.mem_of_getElem? (i := 230) (by decide +kernel))) (by decide +kernel)
theorem pd_X8_find : yX8_find.cls ≠ "java/lang/invoke/MethodHandle" ∧ yX8_find.cls ≠ "java/lang/invoke/VarHandle" ∧ (parseMethodDescriptor yX8_find.desc).map (fun d => d.parameters.length) = some 2 := ⟨by decide, by decide, by decide +kernel⟩
theorem wm_X8_143 : (Cond.methodLink RX8 143 yX8_find) ∈ gW := gW_of (tb_6 (List.mem_of_getElem? (i := 227) (by decide +kernel))) (by decide +kernel)
theorem wi_X8_find : (Cond.instanceMethod yX8_find) ∈ gW := gW_of (tb_6 (List.mem_of_getElem? (i := 229) (by decide +kernel))) (by decide +kernel)
theorem ws_X8_find : (Cond.selects yX8_find.cls yX8_find yX8_find) ∈ gW := gW_of (tb_sel (List.mem_of_getElem? (i := 51) (by decide +kernel))) (by decide +kernel)
theorem kX8_143 : xVk RX8 143 yX8_find cX8_find 4 (some .int) 2 8 := ⟨wm_X8_143, wi_X8_find, ws_X8_find, wz_X8, wc_X8_find, pd_X8_find, TX8, 19, rfl⟩
theorem wc_X8_owing : (Cond.code yX8_owing cX8_owing 2 (some .long)) ∈ gW := gW_of (tb_6 (List.mem_of_getElem? (i := 188) (by decide +kernel))) (by decide +kernel)
theorem pd_X8_owing : yX8_owing.cls ≠ "java/lang/invoke/MethodHandle" ∧ yX8_owing.cls ≠ "java/lang/invoke/VarHandle" ∧ (parseMethodDescriptor yX8_owing.desc).map (fun d => d.parameters.length) = some 1 := ⟨by decide, by decide, by decide +kernel⟩
theorem wm_X8_146 : (Cond.methodLink RX8 146 yX8_owing) ∈ gW := gW_of (tb_6 (List.mem_of_getElem? (i := 185) (by decide +kernel))) (by decide +kernel)
theorem wi_X8_owing : (Cond.instanceMethod yX8_owing) ∈ gW := gW_of (tb_6 (List.mem_of_getElem? (i := 187) (by decide +kernel))) (by decide +kernel)
theorem ws_X8_owing : (Cond.selects yX8_owing.cls yX8_owing yX8_owing) ∈ gW := gW_of (tb_sel (List.mem_of_getElem? (i := 43) (by decide +kernel))) (by decide +kernel)
theorem kX8_146 : xVk RX8 146 yX8_owing cX8_owing 2 (some .long) 1 8 := ⟨wm_X8_146, wi_X8_owing, ws_X8_owing, wz_X8, wc_X8_owing, pd_X8_owing, TX8, 19, rfl⟩
theorem wc_X8_isParty : (Cond.code yX8_isParty cX8_isParty 2 (some .boolean)) ∈ gW := gW_of (tb_6 (List.mem_of_getElem? (i := 103) (by decide +kernel))) (by decide +kernel)
theorem pd_X8_isParty : yX8_isParty.cls ≠ "java/lang/invoke/MethodHandle" ∧ yX8_isParty.cls ≠ "java/lang/invoke/VarHandle" ∧ (parseMethodDescriptor yX8_isParty.desc).map (fun d => d.parameters.length) = some 1 := ⟨by decide, by decide, by decide +kernel⟩
theorem wm_X8_149 : (Cond.methodLink RX8 149 yX8_isParty) ∈ gW := gW_of (tb_6 (List.mem_of_getElem? (i := 100) (by decide +kernel))) (by decide +kernel)
theorem wi_X8_isParty : (Cond.instanceMethod yX8_isParty) ∈ gW := gW_of (tb_6 (List.mem_of_getElem? (i := 102) (by decide +kernel))) (by decide +kernel)
theorem ws_X8_isParty : (Cond.selects yX8_isParty.cls yX8_isParty yX8_isParty) ∈ gW := gW_of (tb_sel (List.mem_of_getElem? (i := 24) (by decide +kernel))) (by decide +kernel)
theorem kX8_149 : xVk RX8 149 yX8_isParty cX8_isParty 2 (some .boolean) 1 8 := ⟨wm_X8_149, wi_X8_isParty, ws_X8_isParty, wz_X8, wc_X8_isParty, pd_X8_isParty, TX8, 19, rfl⟩
theorem wc_X8_held : (Cond.code yX8_held cX8_held 2 (some .long)) ∈ gW := gW_of (tb_6 (List.mem_of_getElem? (i := 111) (by decide +kernel))) (by decide +kernel)
theorem pd_X8_held : yX8_held.cls ≠ "java/lang/invoke/MethodHandle" ∧ yX8_held.cls ≠ "java/lang/invoke/VarHandle" ∧ (parseMethodDescriptor yX8_held.desc).map (fun d => d.parameters.length) = some 1 := ⟨by decide, by decide, by decide +kernel⟩
theorem wm_X8_156 : (Cond.methodLink RX8 156 yX8_held) ∈ gW := gW_of (tb_6 (List.mem_of_getElem? (i := 108) (by decide +kernel))) (by decide +kernel)
theorem wi_X8_held : (Cond.instanceMethod yX8_held) ∈ gW := gW_of (tb_6 (List.mem_of_getElem? (i := 110) (by decide +kernel))) (by decide +kernel)
theorem ws_X8_held : (Cond.selects yX8_held.cls yX8_held yX8_held) ∈ gW := gW_of (tb_sel (List.mem_of_getElem? (i := 26) (by decide +kernel))) (by decide +kernel)
theorem kX8_156 : xVk RX8 156 yX8_held cX8_held 2 (some .long) 1 8 := ⟨wm_X8_156, wi_X8_held, ws_X8_held, wz_X8, wc_X8_held, pd_X8_held, TX8, 19, rfl⟩
theorem wc_X8_shareOf : (Cond.code yX8_shareOf cX8_shareOf 2 (some .long)) ∈ gW := gW_of (tb_6 (List.mem_of_getElem? (i := 115) (by decide +kernel))) (by decide +kernel)
theorem pd_X8_shareOf : yX8_shareOf.cls ≠ "java/lang/invoke/MethodHandle" ∧ yX8_shareOf.cls ≠ "java/lang/invoke/VarHandle" ∧ (parseMethodDescriptor yX8_shareOf.desc).map (fun d => d.parameters.length) = some 1 := ⟨by decide, by decide, by decide +kernel⟩
theorem wm_X8_159 : (Cond.methodLink RX8 159 yX8_shareOf) ∈ gW := gW_of (tb_6 (List.mem_of_getElem? (i := 112) (by decide +kernel))) (by decide +kernel)
theorem wi_X8_shareOf : (Cond.instanceMethod yX8_shareOf) ∈ gW := gW_of (tb_6 (List.mem_of_getElem? (i := 114) (by decide +kernel))) (by decide +kernel)
theorem ws_X8_shareOf : (Cond.selects yX8_shareOf.cls yX8_shareOf yX8_shareOf) ∈ gW := gW_of (tb_sel (List.mem_of_getElem? (i := 27) (by decide +kernel))) (by decide +kernel)
theorem kX8_159 : xVk RX8 159 yX8_shareOf cX8_shareOf 2 (some .long) 1 8 := ⟨wm_X8_159, wi_X8_shareOf, ws_X8_shareOf, wz_X8, wc_X8_shareOf, pd_X8_shareOf, TX8, 19, rfl⟩
theorem wc_X8_shortBy : (Cond.code yX8_shortBy cX8_shortBy 2 (some .long)) ∈ gW := gW_of (tb_6 (List.mem_of_getElem? (i := 172) (by decide +kernel))) (by decide +kernel)
theorem pd_X8_shortBy : yX8_shortBy.cls ≠ "java/lang/invoke/MethodHandle" ∧ yX8_shortBy.cls ≠ "java/lang/invoke/VarHandle" ∧ (parseMethodDescriptor yX8_shortBy.desc).map (fun d => d.parameters.length) = some 1 := ⟨by decide, by decide, by decide +kernel⟩
theorem wm_X8_162 : (Cond.methodLink RX8 162 yX8_shortBy) ∈ gW := gW_of (tb_6 (List.mem_of_getElem? (i := 169) (by decide +kernel))) (by decide +kernel)
theorem wi_X8_shortBy : (Cond.instanceMethod yX8_shortBy) ∈ gW := gW_of (tb_6 (List.mem_of_getElem? (i := 171) (by decide +kernel))) (by decide +kernel)
theorem ws_X8_shortBy : (Cond.selects yX8_shortBy.cls yX8_shortBy yX8_shortBy) ∈ gW := gW_of (tb_sel (List.mem_of_getElem? (i := 39) (by decide +kernel))) (by decide +kernel)
theorem kX8_162 : xVk RX8 162 yX8_shortBy cX8_shortBy 2 (some .long) 1 8 := ⟨wm_X8_162, wi_X8_shortBy, ws_X8_shortBy, wz_X8, wc_X8_shortBy, pd_X8_shortBy, TX8, 19, rfl⟩
theorem wc_X8_allOwed : (Cond.code yX8_allOwed cX8_allOwed 6 (some .long)) ∈ gW := gW_of (tb_6 (List.mem_of_getElem? (i := 176) (by decide +kernel))) (by decide +kernel)
theorem pd_X8_allOwed : yX8_allOwed.cls ≠ "java/lang/invoke/MethodHandle" ∧ yX8_allOwed.cls ≠ "java/lang/invoke/VarHandle" ∧ (parseMethodDescriptor yX8_allOwed.desc).map (fun d => d.parameters.length) = some 2 := ⟨by decide, by decide, by decide +kernel⟩
theorem wm_X8_165 : (Cond.methodLink RX8 165 yX8_allOwed) ∈ gW := gW_of (tb_6 (List.mem_of_getElem? (i := 173) (by decide +kernel))) (by decide +kernel)
theorem wi_X8_allOwed : (Cond.instanceMethod yX8_allOwed) ∈ gW := gW_of (tb_6 (List.mem_of_getElem? (i := 175) (by decide +kernel))) (by decide +kernel)
theorem ws_X8_allOwed : (Cond.selects yX8_allOwed.cls yX8_allOwed yX8_allOwed) ∈ gW := gW_of (tb_sel (List.mem_of_getElem? (i := 40) (by decide +kernel))) (by decide +kernel)
theorem kX8_165 : xVk RX8 165 yX8_allOwed cX8_allOwed 6 (some .long) 2 8 := ⟨wm_X8_165, wi_X8_allOwed, ws_X8_allOwed, wz_X8, wc_X8_allOwed, pd_X8_allOwed, TX8, 19, rfl⟩
theorem wc_X8_failsLong : (Cond.code yX8_failsLong cX8_failsLong 2 (some .long)) ∈ gW := gW_of (tb_6 (List.mem_of_getElem? (i := 107) (by decide +kernel))) (by decide +kernel)
theorem pd_X8_failsLong : yX8_failsLong.cls ≠ "java/lang/invoke/MethodHandle" ∧ yX8_failsLong.cls ≠ "java/lang/invoke/VarHandle" ∧ (parseMethodDescriptor yX8_failsLong.desc).map (fun d => d.parameters.length) = some 1 := ⟨by decide, by decide, by decide +kernel⟩
theorem wm_X8_153 : (Cond.methodLink RX8 153 yX8_failsLong) ∈ gW := gW_of (tb_6 (List.mem_of_getElem? (i := 104) (by decide +kernel))) (by decide +kernel)
theorem wi_X8_failsLong : (Cond.instanceMethod yX8_failsLong) ∈ gW := gW_of (tb_6 (List.mem_of_getElem? (i := 106) (by decide +kernel))) (by decide +kernel)
theorem ws_X8_failsLong : (Cond.selects yX8_failsLong.cls yX8_failsLong yX8_failsLong) ∈ gW := gW_of (tb_sel (List.mem_of_getElem? (i := 25) (by decide +kernel))) (by decide +kernel)
theorem kX8_153 : xVk RX8 153 yX8_failsLong cX8_failsLong 2 (some .long) 1 8 := ⟨wm_X8_153, wi_X8_failsLong, ws_X8_failsLong, wz_X8, wc_X8_failsLong, pd_X8_failsLong, TX8, 19, rfl⟩
theorem w_fieldLink_RX8_169_ArbitrationFeesModel_why_I_ : (Cond.fieldLink RX8 169 "ArbitrationFeesModel" "why" "I") ∈ gW := gW_of (tb_6 (List.mem_of_getElem? (i := 2) (by decide +kernel))) (by decide +kernel)
theorem fX8_169 : xFl RX8 169 8 7 .int false := ⟨RX8, TX8, 19, tyX8, rfl, inX8, by decide, w_fieldLink_RX8_169_ArbitrationFeesModel_why_I_, rfl, tyX8_ok, nmX8, rfl, by decide +kernel⟩
theorem w_constant_RX8_172_100000000 : (Cond.constant RX8 172 100000000) ∈ gW := gW_of (tb_6 (List.mem_of_getElem? (i := 197) (by decide +kernel))) (by decide +kernel)
theorem w_constantLong_RX8_173_3 : (Cond.constantLong RX8 173 3) ∈ gW := gW_of (tb_6 (List.mem_of_getElem? (i := 198) (by decide +kernel))) (by decide +kernel)
theorem w_fieldLink_RX8_175_ArbitrationFeesModel_result_J_ : (Cond.fieldLink RX8 175 "ArbitrationFeesModel" "result" "J") ∈ gW := gW_of (tb_6 (List.mem_of_getElem? (i := 6) (by decide +kernel))) (by decide +kernel)
theorem fX8_175 : xFl RX8 175 8 11 .long false := ⟨RX8, TX8, 19, tyX8, rfl, inX8, by decide, w_fieldLink_RX8_175_ArbitrationFeesModel_result_J_, rfl, tyX8_ok, nmX8, rfl, by decide +kernel⟩
theorem wc_X8_isClaim : (Cond.code yX8_isClaim cX8_isClaim 2 (some .boolean)) ∈ gW := gW_of (tb_6 (List.mem_of_getElem? (i := 214) (by decide +kernel))) (by decide +kernel)
theorem pd_X8_isClaim : yX8_isClaim.cls ≠ "java/lang/invoke/MethodHandle" ∧ yX8_isClaim.cls ≠ "java/lang/invoke/VarHandle" ∧ (parseMethodDescriptor yX8_isClaim.desc).map (fun d => d.parameters.length) = some 1 := ⟨by decide, by decide, by decide +kernel⟩
theorem wm_X8_179 : (Cond.methodLink RX8 179 yX8_isClaim) ∈ gW := gW_of (tb_6 (List.mem_of_getElem? (i := 211) (by decide +kernel))) (by decide +kernel)
theorem wi_X8_isClaim : (Cond.instanceMethod yX8_isClaim) ∈ gW := gW_of (tb_6 (List.mem_of_getElem? (i := 213) (by decide +kernel))) (by decide +kernel)
theorem ws_X8_isClaim : (Cond.selects yX8_isClaim.cls yX8_isClaim yX8_isClaim) ∈ gW := gW_of (tb_sel (List.mem_of_getElem? (i := 47) (by decide +kernel))) (by decide +kernel)
theorem kX8_179 : xVk RX8 179 yX8_isClaim cX8_isClaim 2 (some .boolean) 1 8 := ⟨wm_X8_179, wi_X8_isClaim, ws_X8_isClaim, wz_X8, wc_X8_isClaim, pd_X8_isClaim, TX8, 19, rfl⟩
theorem wc_X8_restOf : (Cond.code yX8_restOf cX8_restOf 2 (some .long)) ∈ gW := gW_of (tb_6 (List.mem_of_getElem? (i := 222) (by decide +kernel))) (by decide +kernel)
theorem pd_X8_restOf : yX8_restOf.cls ≠ "java/lang/invoke/MethodHandle" ∧ yX8_restOf.cls ≠ "java/lang/invoke/VarHandle" ∧ (parseMethodDescriptor yX8_restOf.desc).map (fun d => d.parameters.length) = some 1 := ⟨by decide, by decide, by decide +kernel⟩
theorem wm_X8_185 : (Cond.methodLink RX8 185 yX8_restOf) ∈ gW := gW_of (tb_6 (List.mem_of_getElem? (i := 219) (by decide +kernel))) (by decide +kernel)
theorem wi_X8_restOf : (Cond.instanceMethod yX8_restOf) ∈ gW := gW_of (tb_6 (List.mem_of_getElem? (i := 221) (by decide +kernel))) (by decide +kernel)
theorem ws_X8_restOf : (Cond.selects yX8_restOf.cls yX8_restOf yX8_restOf) ∈ gW := gW_of (tb_sel (List.mem_of_getElem? (i := 49) (by decide +kernel))) (by decide +kernel)
theorem kX8_185 : xVk RX8 185 yX8_restOf cX8_restOf 2 (some .long) 1 8 := ⟨wm_X8_185, wi_X8_restOf, ws_X8_restOf, wz_X8, wc_X8_restOf, pd_X8_restOf, TX8, 19, rfl⟩
theorem wc_X8_notes : (Cond.code yX8_notes cX8_notes 6 none) ∈ gW := gW_of (tb_6 (List.mem_of_getElem? (i := 234) (by decide +kernel))) (by decide +kernel)
theorem pd_X8_notes : yX8_notes.cls ≠ "java/lang/invoke/MethodHandle" ∧ yX8_notes.cls ≠ "java/lang/invoke/VarHandle" ∧ (parseMethodDescriptor yX8_notes.desc).map (fun d => d.parameters.length) = some 2 := ⟨by decide, by decide, by decide +kernel⟩
theorem wm_X8_192 : (Cond.methodLink RX8 192 yX8_notes) ∈ gW := gW_of (tb_6 (List.mem_of_getElem? (i := 231) (by decide +kernel))) (by decide +kernel)
theorem wi_X8_notes : (Cond.instanceMethod yX8_notes) ∈ gW := gW_of (tb_6 (List.mem_of_getElem? (i := 233) (by decide +kernel))) (by decide +kernel)
theorem ws_X8_notes : (Cond.selects yX8_notes.cls yX8_notes yX8_notes) ∈ gW := gW_of (tb_sel (List.mem_of_getElem? (i := 52) (by decide +kernel))) (by decide +kernel)
theorem kX8_192 : xVk RX8 192 yX8_notes cX8_notes 6 none 2 8 := ⟨wm_X8_192, wi_X8_notes, ws_X8_notes, wz_X8, wc_X8_notes, pd_X8_notes, TX8, 19, rfl⟩
theorem wc_X8_owes : (Cond.code yX8_owes cX8_owes 6 none) ∈ gW := gW_of (tb_6 (List.mem_of_getElem? (i := 226) (by decide +kernel))) (by decide +kernel)
theorem pd_X8_owes : yX8_owes.cls ≠ "java/lang/invoke/MethodHandle" ∧ yX8_owes.cls ≠ "java/lang/invoke/VarHandle" ∧ (parseMethodDescriptor yX8_owes.desc).map (fun d => d.parameters.length) = some 3 := ⟨by decide, by decide, by decide +kernel⟩
theorem wm_X8_188 : (Cond.methodLink RX8 188 yX8_owes) ∈ gW := gW_of (tb_6 (List.mem_of_getElem? (i := 223) (by decide +kernel))) (by decide +kernel)
theorem wi_X8_owes : (Cond.instanceMethod yX8_owes) ∈ gW := gW_of (tb_6 (List.mem_of_getElem? (i := 225) (by decide +kernel))) (by decide +kernel)
theorem ws_X8_owes : (Cond.selects yX8_owes.cls yX8_owes yX8_owes) ∈ gW := gW_of (tb_sel (List.mem_of_getElem? (i := 50) (by decide +kernel))) (by decide +kernel)
theorem kX8_188 : xVk RX8 188 yX8_owes cX8_owes 6 none 3 8 := ⟨wm_X8_188, wi_X8_owes, ws_X8_owes, wz_X8, wc_X8_owes, pd_X8_owes, TX8, 19, rfl⟩
theorem wc_X8_refuses : (Cond.code yX8_refuses cX8_refuses 2 (some .int)) ∈ gW := gW_of (tb_6 (List.mem_of_getElem? (i := 218) (by decide +kernel))) (by decide +kernel)
theorem pd_X8_refuses : yX8_refuses.cls ≠ "java/lang/invoke/MethodHandle" ∧ yX8_refuses.cls ≠ "java/lang/invoke/VarHandle" ∧ (parseMethodDescriptor yX8_refuses.desc).map (fun d => d.parameters.length) = some 1 := ⟨by decide, by decide, by decide +kernel⟩
theorem wm_X8_182 : (Cond.methodLink RX8 182 yX8_refuses) ∈ gW := gW_of (tb_6 (List.mem_of_getElem? (i := 215) (by decide +kernel))) (by decide +kernel)
theorem wi_X8_refuses : (Cond.instanceMethod yX8_refuses) ∈ gW := gW_of (tb_6 (List.mem_of_getElem? (i := 217) (by decide +kernel))) (by decide +kernel)
theorem ws_X8_refuses : (Cond.selects yX8_refuses.cls yX8_refuses yX8_refuses) ∈ gW := gW_of (tb_sel (List.mem_of_getElem? (i := 48) (by decide +kernel))) (by decide +kernel)
theorem kX8_182 : xVk RX8 182 yX8_refuses cX8_refuses 2 (some .int) 1 8 := ⟨wm_X8_182, wi_X8_refuses, ws_X8_refuses, wz_X8, wc_X8_refuses, pd_X8_refuses, TX8, 19, rfl⟩
theorem wc_X8_owedBy : (Cond.code yX8_owedBy cX8_owedBy 4 (some .long)) ∈ gW := gW_of (tb_7 (List.mem_of_getElem? (i := 63) (by decide +kernel))) (by decide +kernel)
theorem pd_X8_owedBy : yX8_owedBy.cls ≠ "java/lang/invoke/MethodHandle" ∧ yX8_owedBy.cls ≠ "java/lang/invoke/VarHandle" ∧ (parseMethodDescriptor yX8_owedBy.desc).map (fun d => d.parameters.length) = some 2 := ⟨by decide, by decide, by decide +kernel⟩
theorem wm_X8_196 : (Cond.methodLink RX8 196 yX8_owedBy) ∈ gW := gW_of (tb_7 (List.mem_of_getElem? (i := 60) (by decide +kernel))) (by decide +kernel)
theorem wi_X8_owedBy : (Cond.instanceMethod yX8_owedBy) ∈ gW := gW_of (tb_7 (List.mem_of_getElem? (i := 62) (by decide +kernel))) (by decide +kernel)
theorem ws_X8_owedBy : (Cond.selects yX8_owedBy.cls yX8_owedBy yX8_owedBy) ∈ gW := gW_of (tb_sel (List.mem_of_getElem? (i := 55) (by decide +kernel))) (by decide +kernel)
theorem kX8_196 : xVk RX8 196 yX8_owedBy cX8_owedBy 4 (some .long) 2 8 := ⟨wm_X8_196, wi_X8_owedBy, ws_X8_owedBy, wz_X8, wc_X8_owedBy, pd_X8_owedBy, TX8, 19, rfl⟩
theorem wc_X8_pays : (Cond.code yX8_pays cX8_pays 9 none) ∈ gW := gW_of (tb_7 (List.mem_of_getElem? (i := 83) (by decide +kernel))) (by decide +kernel)
theorem pd_X8_pays : yX8_pays.cls ≠ "java/lang/invoke/MethodHandle" ∧ yX8_pays.cls ≠ "java/lang/invoke/VarHandle" ∧ (parseMethodDescriptor yX8_pays.desc).map (fun d => d.parameters.length) = some 3 := ⟨by decide, by decide, by decide +kernel⟩
theorem wm_X8_200 : (Cond.methodLink RX8 200 yX8_pays) ∈ gW := gW_of (tb_7 (List.mem_of_getElem? (i := 80) (by decide +kernel))) (by decide +kernel)
theorem wi_X8_pays : (Cond.instanceMethod yX8_pays) ∈ gW := gW_of (tb_7 (List.mem_of_getElem? (i := 82) (by decide +kernel))) (by decide +kernel)
theorem ws_X8_pays : (Cond.selects yX8_pays.cls yX8_pays yX8_pays) ∈ gW := gW_of (tb_sel (List.mem_of_getElem? (i := 58) (by decide +kernel))) (by decide +kernel)
theorem kX8_200 : xVk RX8 200 yX8_pays cX8_pays 9 none 3 8 := ⟨wm_X8_200, wi_X8_pays, ws_X8_pays, wz_X8, wc_X8_pays, pd_X8_pays, TX8, 19, rfl⟩
theorem w_constantLong_RX8_203_3600000 : (Cond.constantLong RX8 203 3600000) ∈ gW := gW_of (tb_7 (List.mem_of_getElem? (i := 121) (by decide +kernel))) (by decide +kernel)
theorem w_constantLong_RX8_205_3650 : (Cond.constantLong RX8 205 3650) ∈ gW := gW_of (tb_7 (List.mem_of_getElem? (i := 130) (by decide +kernel))) (by decide +kernel)
theorem wc_X8_grows : (Cond.code yX8_grows cX8_grows 4 (some .long)) ∈ gW := gW_of (tb_7 (List.mem_of_getElem? (i := 134) (by decide +kernel))) (by decide +kernel)
theorem pd_X8_grows : yX8_grows.cls ≠ "java/lang/invoke/MethodHandle" ∧ yX8_grows.cls ≠ "java/lang/invoke/VarHandle" ∧ (parseMethodDescriptor yX8_grows.desc).map (fun d => d.parameters.length) = some 1 := ⟨by decide, by decide, by decide +kernel⟩
theorem wm_X8_207 : (Cond.methodLink RX8 207 yX8_grows) ∈ gW := gW_of (tb_7 (List.mem_of_getElem? (i := 131) (by decide +kernel))) (by decide +kernel)
theorem wi_X8_grows : (Cond.instanceMethod yX8_grows) ∈ gW := gW_of (tb_7 (List.mem_of_getElem? (i := 133) (by decide +kernel))) (by decide +kernel)
theorem ws_X8_grows : (Cond.selects yX8_grows.cls yX8_grows yX8_grows) ∈ gW := gW_of (tb_sel (List.mem_of_getElem? (i := 64) (by decide +kernel))) (by decide +kernel)
theorem kX8_207 : xVk RX8 207 yX8_grows cX8_grows 4 (some .long) 1 8 := ⟨wm_X8_207, wi_X8_grows, ws_X8_grows, wz_X8, wc_X8_grows, pd_X8_grows, TX8, 19, rfl⟩
theorem wc_X8_claiming : (Cond.code yX8_claiming cX8_claiming 5 (some .int)) ∈ gW := gW_of (tb_6 (List.mem_of_getElem? (i := 196) (by decide +kernel))) (by decide +kernel)
theorem pd_X8_claiming : yX8_claiming.cls ≠ "java/lang/invoke/MethodHandle" ∧ yX8_claiming.cls ≠ "java/lang/invoke/VarHandle" ∧ (parseMethodDescriptor yX8_claiming.desc).map (fun d => d.parameters.length) = some 3 := ⟨by decide, by decide, by decide +kernel⟩
theorem wm_X8_210 : (Cond.methodLink RX8 210 yX8_claiming) ∈ gW := gW_of (tb_6 (List.mem_of_getElem? (i := 193) (by decide +kernel))) (by decide +kernel)
theorem wi_X8_claiming : (Cond.instanceMethod yX8_claiming) ∈ gW := gW_of (tb_6 (List.mem_of_getElem? (i := 195) (by decide +kernel))) (by decide +kernel)
theorem ws_X8_claiming : (Cond.selects yX8_claiming.cls yX8_claiming yX8_claiming) ∈ gW := gW_of (tb_sel (List.mem_of_getElem? (i := 44) (by decide +kernel))) (by decide +kernel)
theorem kX8_210 : xVk RX8 210 yX8_claiming cX8_claiming 5 (some .int) 3 8 := ⟨wm_X8_210, wi_X8_claiming, ws_X8_claiming, wz_X8, wc_X8_claiming, pd_X8_claiming, TX8, 19, rfl⟩
theorem wc_X8_ends : (Cond.code yX8_ends cX8_ends 2 (some .long)) ∈ gW := gW_of (tb_6 (List.mem_of_getElem? (i := 202) (by decide +kernel))) (by decide +kernel)
theorem pd_X8_ends : yX8_ends.cls ≠ "java/lang/invoke/MethodHandle" ∧ yX8_ends.cls ≠ "java/lang/invoke/VarHandle" ∧ (parseMethodDescriptor yX8_ends.desc).map (fun d => d.parameters.length) = some 1 := ⟨by decide, by decide, by decide +kernel⟩
theorem wm_X8_214 : (Cond.methodLink RX8 214 yX8_ends) ∈ gW := gW_of (tb_6 (List.mem_of_getElem? (i := 199) (by decide +kernel))) (by decide +kernel)
theorem wi_X8_ends : (Cond.instanceMethod yX8_ends) ∈ gW := gW_of (tb_6 (List.mem_of_getElem? (i := 201) (by decide +kernel))) (by decide +kernel)
theorem ws_X8_ends : (Cond.selects yX8_ends.cls yX8_ends yX8_ends) ∈ gW := gW_of (tb_sel (List.mem_of_getElem? (i := 45) (by decide +kernel))) (by decide +kernel)
theorem kX8_214 : xVk RX8 214 yX8_ends cX8_ends 2 (some .long) 1 8 := ⟨wm_X8_214, wi_X8_ends, ws_X8_ends, wz_X8, wc_X8_ends, pd_X8_ends, TX8, 19, rfl⟩
theorem wc_X8_deciding : (Cond.code yX8_deciding cX8_deciding 4 (some .int)) ∈ gW := gW_of (tb_6 (List.mem_of_getElem? (i := 210) (by decide +kernel))) (by decide +kernel)
theorem pd_X8_deciding : yX8_deciding.cls ≠ "java/lang/invoke/MethodHandle" ∧ yX8_deciding.cls ≠ "java/lang/invoke/VarHandle" ∧ (parseMethodDescriptor yX8_deciding.desc).map (fun d => d.parameters.length) = some 3 := ⟨by decide, by decide, by decide +kernel⟩
theorem wm_X8_217 : (Cond.methodLink RX8 217 yX8_deciding) ∈ gW := gW_of (tb_6 (List.mem_of_getElem? (i := 207) (by decide +kernel))) (by decide +kernel)
theorem wi_X8_deciding : (Cond.instanceMethod yX8_deciding) ∈ gW := gW_of (tb_6 (List.mem_of_getElem? (i := 209) (by decide +kernel))) (by decide +kernel)
theorem ws_X8_deciding : (Cond.selects yX8_deciding.cls yX8_deciding yX8_deciding) ∈ gW := gW_of (tb_sel (List.mem_of_getElem? (i := 46) (by decide +kernel))) (by decide +kernel)
theorem kX8_217 : xVk RX8 217 yX8_deciding cX8_deciding 4 (some .int) 3 8 := ⟨wm_X8_217, wi_X8_deciding, ws_X8_deciding, wz_X8, wc_X8_deciding, pd_X8_deciding, TX8, 19, rfl⟩
theorem w_constant_RX8_220_1200000000 : (Cond.constant RX8 220 1200000000) ∈ gW := gW_of (tb_7 (List.mem_of_getElem? (i := 23) (by decide +kernel))) (by decide +kernel)
theorem wc_X8_partiesOf : (Cond.code yX8_partiesOf cX8_partiesOf 4 (some .int)) ∈ gW := gW_of (tb_7 (List.mem_of_getElem? (i := 31) (by decide +kernel))) (by decide +kernel)
theorem pd_X8_partiesOf : yX8_partiesOf.cls ≠ "java/lang/invoke/MethodHandle" ∧ yX8_partiesOf.cls ≠ "java/lang/invoke/VarHandle" ∧ (parseMethodDescriptor yX8_partiesOf.desc).map (fun d => d.parameters.length) = some 1 := ⟨by decide, by decide, by decide +kernel⟩
theorem wm_X8_221 : (Cond.methodLink RX8 221 yX8_partiesOf) ∈ gW := gW_of (tb_7 (List.mem_of_getElem? (i := 28) (by decide +kernel))) (by decide +kernel)
theorem wi_X8_partiesOf : (Cond.instanceMethod yX8_partiesOf) ∈ gW := gW_of (tb_7 (List.mem_of_getElem? (i := 30) (by decide +kernel))) (by decide +kernel)
theorem ws_X8_partiesOf : (Cond.selects yX8_partiesOf.cls yX8_partiesOf yX8_partiesOf) ∈ gW := gW_of (tb_sel (List.mem_of_getElem? (i := 53) (by decide +kernel))) (by decide +kernel)
theorem kX8_221 : xVk RX8 221 yX8_partiesOf cX8_partiesOf 4 (some .int) 1 8 := ⟨wm_X8_221, wi_X8_partiesOf, ws_X8_partiesOf, wz_X8, wc_X8_partiesOf, pd_X8_partiesOf, TX8, 19, rfl⟩
theorem wc_X8_paying : (Cond.code yX8_paying cX8_paying 3 (some .int)) ∈ gW := gW_of (tb_7 (List.mem_of_getElem? (i := 43) (by decide +kernel))) (by decide +kernel)
theorem pd_X8_paying : yX8_paying.cls ≠ "java/lang/invoke/MethodHandle" ∧ yX8_paying.cls ≠ "java/lang/invoke/VarHandle" ∧ (parseMethodDescriptor yX8_paying.desc).map (fun d => d.parameters.length) = some 2 := ⟨by decide, by decide, by decide +kernel⟩
theorem wm_X8_224 : (Cond.methodLink RX8 224 yX8_paying) ∈ gW := gW_of (tb_7 (List.mem_of_getElem? (i := 40) (by decide +kernel))) (by decide +kernel)
theorem wi_X8_paying : (Cond.instanceMethod yX8_paying) ∈ gW := gW_of (tb_7 (List.mem_of_getElem? (i := 42) (by decide +kernel))) (by decide +kernel)
theorem ws_X8_paying : (Cond.selects yX8_paying.cls yX8_paying yX8_paying) ∈ gW := gW_of (tb_sel (List.mem_of_getElem? (i := 54) (by decide +kernel))) (by decide +kernel)
theorem kX8_224 : xVk RX8 224 yX8_paying cX8_paying 3 (some .int) 2 8 := ⟨wm_X8_224, wi_X8_paying, ws_X8_paying, wz_X8, wc_X8_paying, pd_X8_paying, TX8, 19, rfl⟩
theorem wc_X8_isDebt : (Cond.code yX8_isDebt cX8_isDebt 2 (some .boolean)) ∈ gW := gW_of (tb_7 (List.mem_of_getElem? (i := 71) (by decide +kernel))) (by decide +kernel)
theorem pd_X8_isDebt : yX8_isDebt.cls ≠ "java/lang/invoke/MethodHandle" ∧ yX8_isDebt.cls ≠ "java/lang/invoke/VarHandle" ∧ (parseMethodDescriptor yX8_isDebt.desc).map (fun d => d.parameters.length) = some 1 := ⟨by decide, by decide, by decide +kernel⟩
theorem wm_X8_227 : (Cond.methodLink RX8 227 yX8_isDebt) ∈ gW := gW_of (tb_7 (List.mem_of_getElem? (i := 68) (by decide +kernel))) (by decide +kernel)
theorem wi_X8_isDebt : (Cond.instanceMethod yX8_isDebt) ∈ gW := gW_of (tb_7 (List.mem_of_getElem? (i := 70) (by decide +kernel))) (by decide +kernel)
theorem ws_X8_isDebt : (Cond.selects yX8_isDebt.cls yX8_isDebt yX8_isDebt) ∈ gW := gW_of (tb_sel (List.mem_of_getElem? (i := 56) (by decide +kernel))) (by decide +kernel)
theorem kX8_227 : xVk RX8 227 yX8_isDebt cX8_isDebt 2 (some .boolean) 1 8 := ⟨wm_X8_227, wi_X8_isDebt, ws_X8_isDebt, wz_X8, wc_X8_isDebt, pd_X8_isDebt, TX8, 19, rfl⟩
theorem wc_X8_settling : (Cond.code yX8_settling cX8_settling 4 (some .int)) ∈ gW := gW_of (tb_7 (List.mem_of_getElem? (i := 79) (by decide +kernel))) (by decide +kernel)
theorem pd_X8_settling : yX8_settling.cls ≠ "java/lang/invoke/MethodHandle" ∧ yX8_settling.cls ≠ "java/lang/invoke/VarHandle" ∧ (parseMethodDescriptor yX8_settling.desc).map (fun d => d.parameters.length) = some 3 := ⟨by decide, by decide, by decide +kernel⟩
theorem wm_X8_230 : (Cond.methodLink RX8 230 yX8_settling) ∈ gW := gW_of (tb_7 (List.mem_of_getElem? (i := 76) (by decide +kernel))) (by decide +kernel)
theorem wi_X8_settling : (Cond.instanceMethod yX8_settling) ∈ gW := gW_of (tb_7 (List.mem_of_getElem? (i := 78) (by decide +kernel))) (by decide +kernel)
theorem ws_X8_settling : (Cond.selects yX8_settling.cls yX8_settling yX8_settling) ∈ gW := gW_of (tb_sel (List.mem_of_getElem? (i := 57) (by decide +kernel))) (by decide +kernel)
theorem kX8_230 : xVk RX8 230 yX8_settling cX8_settling 4 (some .int) 3 8 := ⟨wm_X8_230, wi_X8_settling, ws_X8_settling, wz_X8, wc_X8_settling, pd_X8_settling, TX8, 19, rfl⟩
theorem w_fieldLink_RX8_30_ArbitrationFeesModel_ring_I_ : (Cond.fieldLink RX8 30 "ArbitrationFeesModel" "ring" "[I") ∈ gW := gW_of (tb_6 (List.mem_of_getElem? (i := 7) (by decide +kernel))) (by decide +kernel)
theorem fX8_30 : xFl RX8 30 8 12 (.array .int) true := ⟨RX8, TX8, 19, tyX8, rfl, inX8, by decide, w_fieldLink_RX8_30_ArbitrationFeesModel_ring_I_, rfl, tyX8_ok, nmX8, rfl, by decide +kernel⟩
theorem wc_X8_isNew : (Cond.code yX8_isNew cX8_isNew 5 (some .boolean)) ∈ gW := gW_of (tb_7 (List.mem_of_getElem? (i := 107) (by decide +kernel))) (by decide +kernel)
theorem pd_X8_isNew : yX8_isNew.cls ≠ "java/lang/invoke/MethodHandle" ∧ yX8_isNew.cls ≠ "java/lang/invoke/VarHandle" ∧ (parseMethodDescriptor yX8_isNew.desc).map (fun d => d.parameters.length) = some 2 := ⟨by decide, by decide, by decide +kernel⟩
theorem wm_X8_233 : (Cond.methodLink RX8 233 yX8_isNew) ∈ gW := gW_of (tb_7 (List.mem_of_getElem? (i := 104) (by decide +kernel))) (by decide +kernel)
theorem wi_X8_isNew : (Cond.instanceMethod yX8_isNew) ∈ gW := gW_of (tb_7 (List.mem_of_getElem? (i := 106) (by decide +kernel))) (by decide +kernel)
theorem ws_X8_isNew : (Cond.selects yX8_isNew.cls yX8_isNew yX8_isNew) ∈ gW := gW_of (tb_sel (List.mem_of_getElem? (i := 62) (by decide +kernel))) (by decide +kernel)
theorem kX8_233 : xVk RX8 233 yX8_isNew cX8_isNew 5 (some .boolean) 2 8 := ⟨wm_X8_233, wi_X8_isNew, ws_X8_isNew, wz_X8, wc_X8_isNew, pd_X8_isNew, TX8, 19, rfl⟩
theorem wc_X8_nextAt : (Cond.code yX8_nextAt cX8_nextAt 4 (some .int)) ∈ gW := gW_of (tb_7 (List.mem_of_getElem? (i := 103) (by decide +kernel))) (by decide +kernel)
theorem pd_X8_nextAt : yX8_nextAt.cls ≠ "java/lang/invoke/MethodHandle" ∧ yX8_nextAt.cls ≠ "java/lang/invoke/VarHandle" ∧ (parseMethodDescriptor yX8_nextAt.desc).map (fun d => d.parameters.length) = some 2 := ⟨by decide, by decide, by decide +kernel⟩
theorem wm_X8_237 : (Cond.methodLink RX8 237 yX8_nextAt) ∈ gW := gW_of (tb_7 (List.mem_of_getElem? (i := 100) (by decide +kernel))) (by decide +kernel)
theorem wi_X8_nextAt : (Cond.instanceMethod yX8_nextAt) ∈ gW := gW_of (tb_7 (List.mem_of_getElem? (i := 102) (by decide +kernel))) (by decide +kernel)
theorem ws_X8_nextAt : (Cond.selects yX8_nextAt.cls yX8_nextAt yX8_nextAt) ∈ gW := gW_of (tb_sel (List.mem_of_getElem? (i := 61) (by decide +kernel))) (by decide +kernel)
theorem kX8_237 : xVk RX8 237 yX8_nextAt cX8_nextAt 4 (some .int) 2 8 := ⟨wm_X8_237, wi_X8_nextAt, ws_X8_nextAt, wz_X8, wc_X8_nextAt, pd_X8_nextAt, TX8, 19, rfl⟩
theorem wc_X8_hasRing : (Cond.code yX8_hasRing cX8_hasRing 5 (some .boolean)) ∈ gW := gW_of (tb_7 (List.mem_of_getElem? (i := 99) (by decide +kernel))) (by decide +kernel)
theorem pd_X8_hasRing : yX8_hasRing.cls ≠ "java/lang/invoke/MethodHandle" ∧ yX8_hasRing.cls ≠ "java/lang/invoke/VarHandle" ∧ (parseMethodDescriptor yX8_hasRing.desc).map (fun d => d.parameters.length) = some 1 := ⟨by decide, by decide, by decide +kernel⟩
theorem wm_X8_240 : (Cond.methodLink RX8 240 yX8_hasRing) ∈ gW := gW_of (tb_7 (List.mem_of_getElem? (i := 96) (by decide +kernel))) (by decide +kernel)
theorem wi_X8_hasRing : (Cond.instanceMethod yX8_hasRing) ∈ gW := gW_of (tb_7 (List.mem_of_getElem? (i := 98) (by decide +kernel))) (by decide +kernel)
theorem ws_X8_hasRing : (Cond.selects yX8_hasRing.cls yX8_hasRing yX8_hasRing) ∈ gW := gW_of (tb_sel (List.mem_of_getElem? (i := 60) (by decide +kernel))) (by decide +kernel)
theorem kX8_240 : xVk RX8 240 yX8_hasRing cX8_hasRing 5 (some .boolean) 1 8 := ⟨wm_X8_240, wi_X8_hasRing, ws_X8_hasRing, wz_X8, wc_X8_hasRing, pd_X8_hasRing, TX8, 19, rfl⟩
theorem wc_X8_firstRing : (Cond.code yX8_firstRing cX8_firstRing 2 (some .int)) ∈ gW := gW_of (tb_7 (List.mem_of_getElem? (i := 95) (by decide +kernel))) (by decide +kernel)
theorem pd_X8_firstRing : yX8_firstRing.cls ≠ "java/lang/invoke/MethodHandle" ∧ yX8_firstRing.cls ≠ "java/lang/invoke/VarHandle" ∧ (parseMethodDescriptor yX8_firstRing.desc).map (fun d => d.parameters.length) = some 0 := ⟨by decide, by decide, by decide +kernel⟩
theorem wm_X8_243 : (Cond.methodLink RX8 243 yX8_firstRing) ∈ gW := gW_of (tb_7 (List.mem_of_getElem? (i := 92) (by decide +kernel))) (by decide +kernel)
theorem wi_X8_firstRing : (Cond.instanceMethod yX8_firstRing) ∈ gW := gW_of (tb_7 (List.mem_of_getElem? (i := 94) (by decide +kernel))) (by decide +kernel)
theorem ws_X8_firstRing : (Cond.selects yX8_firstRing.cls yX8_firstRing yX8_firstRing) ∈ gW := gW_of (tb_sel (List.mem_of_getElem? (i := 59) (by decide +kernel))) (by decide +kernel)
theorem kX8_243 : xVk RX8 243 yX8_firstRing cX8_firstRing 2 (some .int) 0 8 := ⟨wm_X8_243, wi_X8_firstRing, ws_X8_firstRing, wz_X8, wc_X8_firstRing, pd_X8_firstRing, TX8, 19, rfl⟩
theorem w_constant_RX8_246_1000000000 : (Cond.constant RX8 246 1000000000) ∈ gW := gW_of (tb_7 (List.mem_of_getElem? (i := 120) (by decide +kernel))) (by decide +kernel)
theorem wc_X8_passing : (Cond.code yX8_passing cX8_passing 4 (some .int)) ∈ gW := gW_of (tb_7 (List.mem_of_getElem? (i := 129) (by decide +kernel))) (by decide +kernel)
theorem pd_X8_passing : yX8_passing.cls ≠ "java/lang/invoke/MethodHandle" ∧ yX8_passing.cls ≠ "java/lang/invoke/VarHandle" ∧ (parseMethodDescriptor yX8_passing.desc).map (fun d => d.parameters.length) = some 1 := ⟨by decide, by decide, by decide +kernel⟩
theorem wm_X8_247 : (Cond.methodLink RX8 247 yX8_passing) ∈ gW := gW_of (tb_7 (List.mem_of_getElem? (i := 126) (by decide +kernel))) (by decide +kernel)
theorem wi_X8_passing : (Cond.instanceMethod yX8_passing) ∈ gW := gW_of (tb_7 (List.mem_of_getElem? (i := 128) (by decide +kernel))) (by decide +kernel)
theorem ws_X8_passing : (Cond.selects yX8_passing.cls yX8_passing yX8_passing) ∈ gW := gW_of (tb_sel (List.mem_of_getElem? (i := 63) (by decide +kernel))) (by decide +kernel)
theorem kX8_247 : xVk RX8 247 yX8_passing cX8_passing 4 (some .int) 1 8 := ⟨wm_X8_247, wi_X8_passing, ws_X8_passing, wz_X8, wc_X8_passing, pd_X8_passing, TX8, 19, rfl⟩
theorem wc_X8_goingOn : (Cond.code yX8_goingOn cX8_goingOn 1 (some .int)) ∈ gW := gW_of (tb_7 (List.mem_of_getElem? (i := 142) (by decide +kernel))) (by decide +kernel)
theorem pd_X8_goingOn : yX8_goingOn.cls ≠ "java/lang/invoke/MethodHandle" ∧ yX8_goingOn.cls ≠ "java/lang/invoke/VarHandle" ∧ (parseMethodDescriptor yX8_goingOn.desc).map (fun d => d.parameters.length) = some 0 := ⟨by decide, by decide, by decide +kernel⟩
theorem wm_X8_250 : (Cond.methodLink RX8 250 yX8_goingOn) ∈ gW := gW_of (tb_7 (List.mem_of_getElem? (i := 139) (by decide +kernel))) (by decide +kernel)
theorem wi_X8_goingOn : (Cond.instanceMethod yX8_goingOn) ∈ gW := gW_of (tb_7 (List.mem_of_getElem? (i := 141) (by decide +kernel))) (by decide +kernel)
theorem ws_X8_goingOn : (Cond.selects yX8_goingOn.cls yX8_goingOn yX8_goingOn) ∈ gW := gW_of (tb_sel (List.mem_of_getElem? (i := 65) (by decide +kernel))) (by decide +kernel)
theorem kX8_250 : xVk RX8 250 yX8_goingOn cX8_goingOn 1 (some .int) 0 8 := ⟨wm_X8_250, wi_X8_goingOn, ws_X8_goingOn, wz_X8, wc_X8_goingOn, pd_X8_goingOn, TX8, 19, rfl⟩
theorem wc_X8_allDebts : (Cond.code yX8_allDebts cX8_allDebts 4 (some .long)) ∈ gW := gW_of (tb_7 (List.mem_of_getElem? (i := 150) (by decide +kernel))) (by decide +kernel)
theorem pd_X8_allDebts : yX8_allDebts.cls ≠ "java/lang/invoke/MethodHandle" ∧ yX8_allDebts.cls ≠ "java/lang/invoke/VarHandle" ∧ (parseMethodDescriptor yX8_allDebts.desc).map (fun d => d.parameters.length) = some 0 := ⟨by decide, by decide, by decide +kernel⟩
theorem wm_X8_253 : (Cond.methodLink RX8 253 yX8_allDebts) ∈ gW := gW_of (tb_7 (List.mem_of_getElem? (i := 147) (by decide +kernel))) (by decide +kernel)
theorem wi_X8_allDebts : (Cond.instanceMethod yX8_allDebts) ∈ gW := gW_of (tb_7 (List.mem_of_getElem? (i := 149) (by decide +kernel))) (by decide +kernel)
theorem ws_X8_allDebts : (Cond.selects yX8_allDebts.cls yX8_allDebts yX8_allDebts) ∈ gW := gW_of (tb_sel (List.mem_of_getElem? (i := 66) (by decide +kernel))) (by decide +kernel)
theorem kX8_253 : xVk RX8 253 yX8_allDebts cX8_allDebts 4 (some .long) 0 8 := ⟨wm_X8_253, wi_X8_allDebts, ws_X8_allDebts, wz_X8, wc_X8_allDebts, pd_X8_allDebts, TX8, 19, rfl⟩
theorem wc_X8_rests : (Cond.code yX8_rests cX8_rests 4 (some .long)) ∈ gW := gW_of (tb_7 (List.mem_of_getElem? (i := 154) (by decide +kernel))) (by decide +kernel)
theorem pd_X8_rests : yX8_rests.cls ≠ "java/lang/invoke/MethodHandle" ∧ yX8_rests.cls ≠ "java/lang/invoke/VarHandle" ∧ (parseMethodDescriptor yX8_rests.desc).map (fun d => d.parameters.length) = some 0 := ⟨by decide, by decide, by decide +kernel⟩
theorem wm_X8_256 : (Cond.methodLink RX8 256 yX8_rests) ∈ gW := gW_of (tb_7 (List.mem_of_getElem? (i := 151) (by decide +kernel))) (by decide +kernel)
theorem wi_X8_rests : (Cond.instanceMethod yX8_rests) ∈ gW := gW_of (tb_7 (List.mem_of_getElem? (i := 153) (by decide +kernel))) (by decide +kernel)
theorem ws_X8_rests : (Cond.selects yX8_rests.cls yX8_rests yX8_rests) ∈ gW := gW_of (tb_sel (List.mem_of_getElem? (i := 67) (by decide +kernel))) (by decide +kernel)
theorem kX8_256 : xVk RX8 256 yX8_rests cX8_rests 4 (some .long) 0 8 := ⟨wm_X8_256, wi_X8_rests, ws_X8_rests, wz_X8, wc_X8_rests, pd_X8_rests, TX8, 19, rfl⟩
theorem wc_X8_together : (Cond.code yX8_together cX8_together 5 (some .long)) ∈ gW := gW_of (tb_7 (List.mem_of_getElem? (i := 158) (by decide +kernel))) (by decide +kernel)
theorem pd_X8_together : yX8_together.cls ≠ "java/lang/invoke/MethodHandle" ∧ yX8_together.cls ≠ "java/lang/invoke/VarHandle" ∧ (parseMethodDescriptor yX8_together.desc).map (fun d => d.parameters.length) = some 1 := ⟨by decide, by decide, by decide +kernel⟩
theorem wm_X8_259 : (Cond.methodLink RX8 259 yX8_together) ∈ gW := gW_of (tb_7 (List.mem_of_getElem? (i := 155) (by decide +kernel))) (by decide +kernel)
theorem wi_X8_together : (Cond.instanceMethod yX8_together) ∈ gW := gW_of (tb_7 (List.mem_of_getElem? (i := 157) (by decide +kernel))) (by decide +kernel)
theorem ws_X8_together : (Cond.selects yX8_together.cls yX8_together yX8_together) ∈ gW := gW_of (tb_sel (List.mem_of_getElem? (i := 68) (by decide +kernel))) (by decide +kernel)
theorem kX8_259 : xVk RX8 259 yX8_together cX8_together 5 (some .long) 1 8 := ⟨wm_X8_259, wi_X8_together, ws_X8_together, wz_X8, wc_X8_together, pd_X8_together, TX8, 19, rfl⟩
theorem w_fieldLink_RX8_262_ArbitrationFeesModel_length_I_ : (Cond.fieldLink RX8 262 "ArbitrationFeesModel" "length" "I") ∈ gW := gW_of (tb_6 (List.mem_of_getElem? (i := 4) (by decide +kernel))) (by decide +kernel)
theorem fX8_262 : xFl RX8 262 8 9 .int false := ⟨RX8, TX8, 19, tyX8, rfl, inX8, by decide, w_fieldLink_RX8_262_ArbitrationFeesModel_length_I_, rfl, tyX8_ok, nmX8, rfl, by decide +kernel⟩
theorem w_fieldLink_RX8_22_ArbitrationFeesModel_text_I_ : (Cond.fieldLink RX8 22 "ArbitrationFeesModel" "text" "[I") ∈ gW := gW_of (tb_6 (List.mem_of_getElem? (i := 3) (by decide +kernel))) (by decide +kernel)
theorem fX8_22 : xFl RX8 22 8 8 (.array .int) true := ⟨RX8, TX8, 19, tyX8, rfl, inX8, by decide, w_fieldLink_RX8_22_ArbitrationFeesModel_text_I_, rfl, tyX8_ok, nmX8, rfl, by decide +kernel⟩
theorem w_fieldLink_RX8_265_ArbitrationFeesModel_spot_I_ : (Cond.fieldLink RX8 265 "ArbitrationFeesModel" "spot" "I") ∈ gW := gW_of (tb_6 (List.mem_of_getElem? (i := 8) (by decide +kernel))) (by decide +kernel)
theorem fX8_265 : xFl RX8 265 8 13 .int false := ⟨RX8, TX8, 19, tyX8, rfl, inX8, by decide, w_fieldLink_RX8_265_ArbitrationFeesModel_spot_I_, rfl, tyX8_ok, nmX8, rfl, by decide +kernel⟩
theorem w_fieldLink_RX8_268_ArbitrationFeesModel_end_I_ : (Cond.fieldLink RX8 268 "ArbitrationFeesModel" "end" "I") ∈ gW := gW_of (tb_6 (List.mem_of_getElem? (i := 9) (by decide +kernel))) (by decide +kernel)
theorem fX8_268 : xFl RX8 268 8 14 .int false := ⟨RX8, TX8, 19, tyX8, rfl, inX8, by decide, w_fieldLink_RX8_268_ArbitrationFeesModel_end_I_, rfl, tyX8_ok, nmX8, rfl, by decide +kernel⟩
theorem w_fieldLink_RX8_271_ArbitrationFeesModel_isRight_Z_ : (Cond.fieldLink RX8 271 "ArbitrationFeesModel" "isRight" "Z") ∈ gW := gW_of (tb_6 (List.mem_of_getElem? (i := 10) (by decide +kernel))) (by decide +kernel)
theorem fX8_271 : xFl RX8 271 8 15 .boolean false := ⟨RX8, TX8, 19, tyX8, rfl, inX8, by decide, w_fieldLink_RX8_271_ArbitrationFeesModel_isRight_Z_, rfl, tyX8_ok, nmX8, rfl, by decide +kernel⟩
theorem wc_X8_here : (Cond.code yX8_here cX8_here 1 (some .int)) ∈ gW := gW_of (tb_7 (List.mem_of_getElem? (i := 186) (by decide +kernel))) (by decide +kernel)
theorem pd_X8_here : yX8_here.cls ≠ "java/lang/invoke/MethodHandle" ∧ yX8_here.cls ≠ "java/lang/invoke/VarHandle" ∧ (parseMethodDescriptor yX8_here.desc).map (fun d => d.parameters.length) = some 0 := ⟨by decide, by decide, by decide +kernel⟩
theorem wm_X8_275 : (Cond.methodLink RX8 275 yX8_here) ∈ gW := gW_of (tb_7 (List.mem_of_getElem? (i := 183) (by decide +kernel))) (by decide +kernel)
theorem wi_X8_here : (Cond.instanceMethod yX8_here) ∈ gW := gW_of (tb_7 (List.mem_of_getElem? (i := 185) (by decide +kernel))) (by decide +kernel)
theorem ws_X8_here : (Cond.selects yX8_here.cls yX8_here yX8_here) ∈ gW := gW_of (tb_sel (List.mem_of_getElem? (i := 71) (by decide +kernel))) (by decide +kernel)
theorem kX8_275 : xVk RX8 275 yX8_here cX8_here 1 (some .int) 0 8 := ⟨wm_X8_275, wi_X8_here, ws_X8_here, wz_X8, wc_X8_here, pd_X8_here, TX8, 19, rfl⟩
theorem w_fieldLink_RX8_278_ArbitrationFeesModel_entries_I_ : (Cond.fieldLink RX8 278 "ArbitrationFeesModel" "entries" "I") ∈ gW := gW_of (tb_6 (List.mem_of_getElem? (i := 13) (by decide +kernel))) (by decide +kernel)
theorem fX8_278 : xFl RX8 278 8 18 .int false := ⟨RX8, TX8, 19, tyX8, rfl, inX8, by decide, w_fieldLink_RX8_278_ArbitrationFeesModel_entries_I_, rfl, tyX8_ok, nmX8, rfl, by decide +kernel⟩
theorem w_fieldLink_RX8_33_ArbitrationFeesModel_words_I_ : (Cond.fieldLink RX8 33 "ArbitrationFeesModel" "words" "[I") ∈ gW := gW_of (tb_6 (List.mem_of_getElem? (i := 11) (by decide +kernel))) (by decide +kernel)
theorem fX8_33 : xFl RX8 33 8 16 (.array .int) true := ⟨RX8, TX8, 19, tyX8, rfl, inX8, by decide, w_fieldLink_RX8_33_ArbitrationFeesModel_words_I_, rfl, tyX8_ok, nmX8, rfl, by decide +kernel⟩
theorem wc_X8_must : (Cond.code yX8_must cX8_must 2 none) ∈ gW := gW_of (tb_7 (List.mem_of_getElem? (i := 194) (by decide +kernel))) (by decide +kernel)
theorem pd_X8_must : yX8_must.cls ≠ "java/lang/invoke/MethodHandle" ∧ yX8_must.cls ≠ "java/lang/invoke/VarHandle" ∧ (parseMethodDescriptor yX8_must.desc).map (fun d => d.parameters.length) = some 1 := ⟨by decide, by decide, by decide +kernel⟩
theorem wm_X8_284 : (Cond.methodLink RX8 284 yX8_must) ∈ gW := gW_of (tb_7 (List.mem_of_getElem? (i := 191) (by decide +kernel))) (by decide +kernel)
theorem wi_X8_must : (Cond.instanceMethod yX8_must) ∈ gW := gW_of (tb_7 (List.mem_of_getElem? (i := 193) (by decide +kernel))) (by decide +kernel)
theorem ws_X8_must : (Cond.selects yX8_must.cls yX8_must yX8_must) ∈ gW := gW_of (tb_sel (List.mem_of_getElem? (i := 73) (by decide +kernel))) (by decide +kernel)
theorem kX8_284 : xVk RX8 284 yX8_must cX8_must 2 none 1 8 := ⟨wm_X8_284, wi_X8_must, ws_X8_must, wz_X8, wc_X8_must, pd_X8_must, TX8, 19, rfl⟩
theorem w_fieldLink_RX8_36_ArbitrationFeesModel_numbers_I_ : (Cond.fieldLink RX8 36 "ArbitrationFeesModel" "numbers" "[I") ∈ gW := gW_of (tb_6 (List.mem_of_getElem? (i := 12) (by decide +kernel))) (by decide +kernel)
theorem fX8_36 : xFl RX8 36 8 17 (.array .int) true := ⟨RX8, TX8, 19, tyX8, rfl, inX8, by decide, w_fieldLink_RX8_36_ArbitrationFeesModel_numbers_I_, rfl, tyX8_ok, nmX8, rfl, by decide +kernel⟩
theorem wc_X8_number : (Cond.code yX8_number cX8_number 4 (some .int)) ∈ gW := gW_of (tb_7 (List.mem_of_getElem? (i := 190) (by decide +kernel))) (by decide +kernel)
theorem pd_X8_number : yX8_number.cls ≠ "java/lang/invoke/MethodHandle" ∧ yX8_number.cls ≠ "java/lang/invoke/VarHandle" ∧ (parseMethodDescriptor yX8_number.desc).map (fun d => d.parameters.length) = some 1 := ⟨by decide, by decide, by decide +kernel⟩
theorem wm_X8_281 : (Cond.methodLink RX8 281 yX8_number) ∈ gW := gW_of (tb_7 (List.mem_of_getElem? (i := 187) (by decide +kernel))) (by decide +kernel)
theorem wi_X8_number : (Cond.instanceMethod yX8_number) ∈ gW := gW_of (tb_7 (List.mem_of_getElem? (i := 189) (by decide +kernel))) (by decide +kernel)
theorem ws_X8_number : (Cond.selects yX8_number.cls yX8_number yX8_number) ∈ gW := gW_of (tb_sel (List.mem_of_getElem? (i := 72) (by decide +kernel))) (by decide +kernel)
theorem kX8_281 : xVk RX8 281 yX8_number cX8_number 4 (some .int) 1 8 := ⟨wm_X8_281, wi_X8_number, ws_X8_number, wz_X8, wc_X8_number, pd_X8_number, TX8, 19, rfl⟩
theorem wc_X8_readsEntry : (Cond.code yX8_readsEntry cX8_readsEntry 3 none) ∈ gW := gW_of (tb_7 (List.mem_of_getElem? (i := 182) (by decide +kernel))) (by decide +kernel)
theorem pd_X8_readsEntry : yX8_readsEntry.cls ≠ "java/lang/invoke/MethodHandle" ∧ yX8_readsEntry.cls ≠ "java/lang/invoke/VarHandle" ∧ (parseMethodDescriptor yX8_readsEntry.desc).map (fun d => d.parameters.length) = some 0 := ⟨by decide, by decide, by decide +kernel⟩
theorem wm_X8_288 : (Cond.methodLink RX8 288 yX8_readsEntry) ∈ gW := gW_of (tb_7 (List.mem_of_getElem? (i := 179) (by decide +kernel))) (by decide +kernel)
theorem wi_X8_readsEntry : (Cond.instanceMethod yX8_readsEntry) ∈ gW := gW_of (tb_7 (List.mem_of_getElem? (i := 181) (by decide +kernel))) (by decide +kernel)
theorem ws_X8_readsEntry : (Cond.selects yX8_readsEntry.cls yX8_readsEntry yX8_readsEntry) ∈ gW := gW_of (tb_sel (List.mem_of_getElem? (i := 70) (by decide +kernel))) (by decide +kernel)
theorem kX8_288 : xVk RX8 288 yX8_readsEntry cX8_readsEntry 3 none 0 8 := ⟨wm_X8_288, wi_X8_readsEntry, ws_X8_readsEntry, wz_X8, wc_X8_readsEntry, pd_X8_readsEntry, TX8, 19, rfl⟩
theorem wc_X8_readsText : (Cond.code yX8_readsText cX8_readsText 1 (some .boolean)) ∈ gW := gW_of (tb_7 (List.mem_of_getElem? (i := 178) (by decide +kernel))) (by decide +kernel)
theorem pd_X8_readsText : yX8_readsText.cls ≠ "java/lang/invoke/MethodHandle" ∧ yX8_readsText.cls ≠ "java/lang/invoke/VarHandle" ∧ (parseMethodDescriptor yX8_readsText.desc).map (fun d => d.parameters.length) = some 0 := ⟨by decide, by decide, by decide +kernel⟩
theorem wm_X8_291 : (Cond.methodLink RX8 291 yX8_readsText) ∈ gW := gW_of (tb_7 (List.mem_of_getElem? (i := 175) (by decide +kernel))) (by decide +kernel)
theorem wi_X8_readsText : (Cond.instanceMethod yX8_readsText) ∈ gW := gW_of (tb_7 (List.mem_of_getElem? (i := 177) (by decide +kernel))) (by decide +kernel)
theorem ws_X8_readsText : (Cond.selects yX8_readsText.cls yX8_readsText yX8_readsText) ∈ gW := gW_of (tb_sel (List.mem_of_getElem? (i := 69) (by decide +kernel))) (by decide +kernel)
theorem kX8_291 : xVk RX8 291 yX8_readsText cX8_readsText 1 (some .boolean) 0 8 := ⟨wm_X8_291, wi_X8_readsText, ws_X8_readsText, wz_X8, wc_X8_readsText, pd_X8_readsText, TX8, 19, rfl⟩
theorem wc_X8_does : (Cond.code yX8_does cX8_does 5 (some .int)) ∈ gW := gW_of (tb_7 (List.mem_of_getElem? (i := 198) (by decide +kernel))) (by decide +kernel)
theorem pd_X8_does : yX8_does.cls ≠ "java/lang/invoke/MethodHandle" ∧ yX8_does.cls ≠ "java/lang/invoke/VarHandle" ∧ (parseMethodDescriptor yX8_does.desc).map (fun d => d.parameters.length) = some 1 := ⟨by decide, by decide, by decide +kernel⟩
theorem wm_X8_295 : (Cond.methodLink RX8 295 yX8_does) ∈ gW := gW_of (tb_7 (List.mem_of_getElem? (i := 195) (by decide +kernel))) (by decide +kernel)
theorem wi_X8_does : (Cond.instanceMethod yX8_does) ∈ gW := gW_of (tb_7 (List.mem_of_getElem? (i := 197) (by decide +kernel))) (by decide +kernel)
theorem ws_X8_does : (Cond.selects yX8_does.cls yX8_does yX8_does) ∈ gW := gW_of (tb_sel (List.mem_of_getElem? (i := 74) (by decide +kernel))) (by decide +kernel)
theorem kX8_295 : xVk RX8 295 yX8_does cX8_does 5 (some .int) 1 8 := ⟨wm_X8_295, wi_X8_does, ws_X8_does, wz_X8, wc_X8_does, pd_X8_does, TX8, 19, rfl⟩
theorem w_fieldLink_RX8_26_ArbitrationFeesModel_errorAt_I_ : (Cond.fieldLink RX8 26 "ArbitrationFeesModel" "errorAt" "I") ∈ gW := gW_of (tb_6 (List.mem_of_getElem? (i := 5) (by decide +kernel))) (by decide +kernel)
theorem fX8_26 : xFl RX8 26 8 10 .int false := ⟨RX8, TX8, 19, tyX8, rfl, inX8, by decide, w_fieldLink_RX8_26_ArbitrationFeesModel_errorAt_I_, rfl, tyX8_ok, nmX8, rfl, by decide +kernel⟩
theorem w_fieldLink_RX8_298_ArbitrationFeesModel_hasSaved_Z_ : (Cond.fieldLink RX8 298 "ArbitrationFeesModel" "hasSaved" "Z") ∈ gW := gW_of (tb_6 (List.mem_of_getElem? (i := 1) (by decide +kernel))) (by decide +kernel)
theorem fX8_298 : xFl RX8 298 8 6 .boolean false := ⟨RX8, TX8, 19, tyX8, rfl, inX8, by decide, w_fieldLink_RX8_298_ArbitrationFeesModel_hasSaved_Z_, rfl, tyX8_ok, nmX8, rfl, by decide +kernel⟩
theorem w_fieldLink_RX8_13_ArbitrationFeesModel_saved_J_ : (Cond.fieldLink RX8 13 "ArbitrationFeesModel" "saved" "[J") ∈ gW := gW_of (tb_5 (List.mem_of_getElem? (i := 237) (by decide +kernel))) (by decide +kernel)
theorem fX8_13 : xFl RX8 13 8 2 (.array .long) true := ⟨RX8, TX8, 19, tyX8, rfl, inX8, by decide, w_fieldLink_RX8_13_ArbitrationFeesModel_saved_J_, rfl, tyX8_ok, nmX8, rfl, by decide +kernel⟩
theorem wc_X7_addParty : (Cond.code yX7_addParty cX7_addParty 3 (some .int)) ∈ gW := gW_of (tb_2 (List.mem_of_getElem? (i := 237) (by decide +kernel))) (by decide +kernel)
theorem pd_X7_addParty : yX7_addParty.cls ≠ "java/lang/invoke/MethodHandle" ∧ yX7_addParty.cls ≠ "java/lang/invoke/VarHandle" ∧ (parseMethodDescriptor yX7_addParty.desc).map (fun d => d.parameters.length) = some 2 := ⟨by decide, by decide, by decide +kernel⟩
theorem wm_L_7 : (Cond.methodLink RL 7 yX7_addParty) ∈ gW := gW_of (tb_2 (List.mem_of_getElem? (i := 234) (by decide +kernel))) (by decide +kernel)
theorem wi_X7_addParty : (Cond.instanceMethod yX7_addParty) ∈ gW := gW_of (tb_2 (List.mem_of_getElem? (i := 235) (by decide +kernel))) (by decide +kernel)
theorem ws_X7_addParty : (Cond.selects yX7_addParty.cls yX7_addParty yX7_addParty) ∈ gW := gW_of (tb_2 (List.mem_of_getElem? (i := 236) (by decide +kernel))) (by decide +kernel)
theorem kL_7 : xVk RL 7 yX7_addParty cX7_addParty 3 (some .int) 2 7 := ⟨wm_L_7, wi_X7_addParty, ws_X7_addParty, wz_X7, wc_X7_addParty, pd_X7_addParty, TX7, 10, rfl⟩
theorem w_classLink_RL_13_java_lang_IllegalArgumentException_ : (Cond.classLink RL 13 "java/lang/IllegalArgumentException") ∈ gW := gW_of (tb_2 (List.mem_of_getElem? (i := 232) (by decide +kernel))) (by decide +kernel)
theorem w_classLink_RL_15_java_lang_IllegalStateException_ : (Cond.classLink RL 15 "java/lang/IllegalStateException") ∈ gW := gW_of (tb_2 (List.mem_of_getElem? (i := 233) (by decide +kernel))) (by decide +kernel)
theorem wc_X7_setRate : (Cond.code yX7_setRate cX7_setRate 4 (some .int)) ∈ gW := gW_of (tb_3 (List.mem_of_getElem? (i := 130) (by decide +kernel))) (by decide +kernel)
theorem pd_X7_setRate : yX7_setRate.cls ≠ "java/lang/invoke/MethodHandle" ∧ yX7_setRate.cls ≠ "java/lang/invoke/VarHandle" ∧ (parseMethodDescriptor yX7_setRate.desc).map (fun d => d.parameters.length) = some 2 := ⟨by decide, by decide, by decide +kernel⟩
theorem wm_L_17 : (Cond.methodLink RL 17 yX7_setRate) ∈ gW := gW_of (tb_3 (List.mem_of_getElem? (i := 127) (by decide +kernel))) (by decide +kernel)
theorem wi_X7_setRate : (Cond.instanceMethod yX7_setRate) ∈ gW := gW_of (tb_3 (List.mem_of_getElem? (i := 128) (by decide +kernel))) (by decide +kernel)
theorem ws_X7_setRate : (Cond.selects yX7_setRate.cls yX7_setRate yX7_setRate) ∈ gW := gW_of (tb_3 (List.mem_of_getElem? (i := 129) (by decide +kernel))) (by decide +kernel)
theorem kL_17 : xVk RL 17 yX7_setRate cX7_setRate 4 (some .int) 2 7 := ⟨wm_L_17, wi_X7_setRate, ws_X7_setRate, wz_X7, wc_X7_setRate, pd_X7_setRate, TX7, 10, rfl⟩
theorem w_classLink_RL_20_java_lang_IndexOutOfBoundsException_ : (Cond.classLink RL 20 "java/lang/IndexOutOfBoundsException") ∈ gW := gW_of (tb_3 (List.mem_of_getElem? (i := 94) (by decide +kernel))) (by decide +kernel)
theorem wc_X7_setTier : (Cond.code yX7_setTier cX7_setTier 4 (some .int)) ∈ gW := gW_of (tb_3 (List.mem_of_getElem? (i := 178) (by decide +kernel))) (by decide +kernel)
theorem pd_X7_setTier : yX7_setTier.cls ≠ "java/lang/invoke/MethodHandle" ∧ yX7_setTier.cls ≠ "java/lang/invoke/VarHandle" ∧ (parseMethodDescriptor yX7_setTier.desc).map (fun d => d.parameters.length) = some 2 := ⟨by decide, by decide, by decide +kernel⟩
theorem wm_L_22 : (Cond.methodLink RL 22 yX7_setTier) ∈ gW := gW_of (tb_3 (List.mem_of_getElem? (i := 175) (by decide +kernel))) (by decide +kernel)
theorem wi_X7_setTier : (Cond.instanceMethod yX7_setTier) ∈ gW := gW_of (tb_3 (List.mem_of_getElem? (i := 176) (by decide +kernel))) (by decide +kernel)
theorem ws_X7_setTier : (Cond.selects yX7_setTier.cls yX7_setTier yX7_setTier) ∈ gW := gW_of (tb_3 (List.mem_of_getElem? (i := 177) (by decide +kernel))) (by decide +kernel)
theorem kL_22 : xVk RL 22 yX7_setTier cX7_setTier 4 (some .int) 2 7 := ⟨wm_L_22, wi_X7_setTier, ws_X7_setTier, wz_X7, wc_X7_setTier, pd_X7_setTier, TX7, 10, rfl⟩
theorem wc_X7_party : (Cond.code yX7_party cX7_party 3 (some .long)) ∈ gW := gW_of (tb_3 (List.mem_of_getElem? (i := 185) (by decide +kernel))) (by decide +kernel)
theorem pd_X7_party : yX7_party.cls ≠ "java/lang/invoke/MethodHandle" ∧ yX7_party.cls ≠ "java/lang/invoke/VarHandle" ∧ (parseMethodDescriptor yX7_party.desc).map (fun d => d.parameters.length) = some 2 := ⟨by decide, by decide, by decide +kernel⟩
theorem wm_L_25 : (Cond.methodLink RL 25 yX7_party) ∈ gW := gW_of (tb_3 (List.mem_of_getElem? (i := 182) (by decide +kernel))) (by decide +kernel)
theorem wi_X7_party : (Cond.instanceMethod yX7_party) ∈ gW := gW_of (tb_3 (List.mem_of_getElem? (i := 183) (by decide +kernel))) (by decide +kernel)
theorem ws_X7_party : (Cond.selects yX7_party.cls yX7_party yX7_party) ∈ gW := gW_of (tb_3 (List.mem_of_getElem? (i := 184) (by decide +kernel))) (by decide +kernel)
theorem kL_25 : xVk RL 25 yX7_party cX7_party 3 (some .long) 2 7 := ⟨wm_L_25, wi_X7_party, ws_X7_party, wz_X7, wc_X7_party, pd_X7_party, TX7, 10, rfl⟩
theorem wc_X7_claim : (Cond.code yX7_claim cX7_claim 4 (some .int)) ∈ gW := gW_of (tb_3 (List.mem_of_getElem? (i := 223) (by decide +kernel))) (by decide +kernel)
theorem pd_X7_claim : yX7_claim.cls ≠ "java/lang/invoke/MethodHandle" ∧ yX7_claim.cls ≠ "java/lang/invoke/VarHandle" ∧ (parseMethodDescriptor yX7_claim.desc).map (fun d => d.parameters.length) = some 3 := ⟨by decide, by decide, by decide +kernel⟩
theorem wm_L_29 : (Cond.methodLink RL 29 yX7_claim) ∈ gW := gW_of (tb_3 (List.mem_of_getElem? (i := 220) (by decide +kernel))) (by decide +kernel)
theorem wi_X7_claim : (Cond.instanceMethod yX7_claim) ∈ gW := gW_of (tb_3 (List.mem_of_getElem? (i := 221) (by decide +kernel))) (by decide +kernel)
theorem ws_X7_claim : (Cond.selects yX7_claim.cls yX7_claim yX7_claim) ∈ gW := gW_of (tb_3 (List.mem_of_getElem? (i := 222) (by decide +kernel))) (by decide +kernel)
theorem kL_29 : xVk RL 29 yX7_claim cX7_claim 4 (some .int) 3 7 := ⟨wm_L_29, wi_X7_claim, ws_X7_claim, wz_X7, wc_X7_claim, pd_X7_claim, TX7, 10, rfl⟩
theorem wc_X7_award : (Cond.code yX7_award cX7_award 3 (some .int)) ∈ gW := gW_of (tb_4 (List.mem_of_getElem? (i := 8) (by decide +kernel))) (by decide +kernel)
theorem pd_X7_award : yX7_award.cls ≠ "java/lang/invoke/MethodHandle" ∧ yX7_award.cls ≠ "java/lang/invoke/VarHandle" ∧ (parseMethodDescriptor yX7_award.desc).map (fun d => d.parameters.length) = some 2 := ⟨by decide, by decide, by decide +kernel⟩
theorem wm_L_33 : (Cond.methodLink RL 33 yX7_award) ∈ gW := gW_of (tb_4 (List.mem_of_getElem? (i := 5) (by decide +kernel))) (by decide +kernel)
theorem wi_X7_award : (Cond.instanceMethod yX7_award) ∈ gW := gW_of (tb_4 (List.mem_of_getElem? (i := 6) (by decide +kernel))) (by decide +kernel)
theorem ws_X7_award : (Cond.selects yX7_award.cls yX7_award yX7_award) ∈ gW := gW_of (tb_4 (List.mem_of_getElem? (i := 7) (by decide +kernel))) (by decide +kernel)
theorem kL_33 : xVk RL 33 yX7_award cX7_award 3 (some .int) 2 7 := ⟨wm_L_33, wi_X7_award, ws_X7_award, wz_X7, wc_X7_award, pd_X7_award, TX7, 10, rfl⟩
theorem w_classLink_RL_36_java_lang_UnsupportedOperationException_ : (Cond.classLink RL 36 "java/lang/UnsupportedOperationException") ∈ gW := gW_of (tb_4 (List.mem_of_getElem? (i := 4) (by decide +kernel))) (by decide +kernel)
theorem wc_X7_dismiss : (Cond.code yX7_dismiss cX7_dismiss 3 (some .int)) ∈ gW := gW_of (tb_4 (List.mem_of_getElem? (i := 40) (by decide +kernel))) (by decide +kernel)
theorem pd_X7_dismiss : yX7_dismiss.cls ≠ "java/lang/invoke/MethodHandle" ∧ yX7_dismiss.cls ≠ "java/lang/invoke/VarHandle" ∧ (parseMethodDescriptor yX7_dismiss.desc).map (fun d => d.parameters.length) = some 2 := ⟨by decide, by decide, by decide +kernel⟩
theorem wm_L_38 : (Cond.methodLink RL 38 yX7_dismiss) ∈ gW := gW_of (tb_4 (List.mem_of_getElem? (i := 37) (by decide +kernel))) (by decide +kernel)
theorem wi_X7_dismiss : (Cond.instanceMethod yX7_dismiss) ∈ gW := gW_of (tb_4 (List.mem_of_getElem? (i := 38) (by decide +kernel))) (by decide +kernel)
theorem ws_X7_dismiss : (Cond.selects yX7_dismiss.cls yX7_dismiss yX7_dismiss) ∈ gW := gW_of (tb_4 (List.mem_of_getElem? (i := 39) (by decide +kernel))) (by decide +kernel)
theorem kL_38 : xVk RL 38 yX7_dismiss cX7_dismiss 3 (some .int) 2 7 := ⟨wm_L_38, wi_X7_dismiss, ws_X7_dismiss, wz_X7, wc_X7_dismiss, pd_X7_dismiss, TX7, 10, rfl⟩
theorem wc_X7_withdraw : (Cond.code yX7_withdraw cX7_withdraw 3 (some .int)) ∈ gW := gW_of (tb_4 (List.mem_of_getElem? (i := 51) (by decide +kernel))) (by decide +kernel)
theorem pd_X7_withdraw : yX7_withdraw.cls ≠ "java/lang/invoke/MethodHandle" ∧ yX7_withdraw.cls ≠ "java/lang/invoke/VarHandle" ∧ (parseMethodDescriptor yX7_withdraw.desc).map (fun d => d.parameters.length) = some 2 := ⟨by decide, by decide, by decide +kernel⟩
theorem wm_L_41 : (Cond.methodLink RL 41 yX7_withdraw) ∈ gW := gW_of (tb_4 (List.mem_of_getElem? (i := 48) (by decide +kernel))) (by decide +kernel)
theorem wi_X7_withdraw : (Cond.instanceMethod yX7_withdraw) ∈ gW := gW_of (tb_4 (List.mem_of_getElem? (i := 49) (by decide +kernel))) (by decide +kernel)
theorem ws_X7_withdraw : (Cond.selects yX7_withdraw.cls yX7_withdraw yX7_withdraw) ∈ gW := gW_of (tb_4 (List.mem_of_getElem? (i := 50) (by decide +kernel))) (by decide +kernel)
theorem kL_41 : xVk RL 41 yX7_withdraw cX7_withdraw 3 (some .int) 2 7 := ⟨wm_L_41, wi_X7_withdraw, ws_X7_withdraw, wz_X7, wc_X7_withdraw, pd_X7_withdraw, TX7, 10, rfl⟩
theorem wc_X7_claimed : (Cond.code yX7_claimed cX7_claimed 3 (some .int)) ∈ gW := gW_of (tb_4 (List.mem_of_getElem? (i := 66) (by decide +kernel))) (by decide +kernel)
theorem pd_X7_claimed : yX7_claimed.cls ≠ "java/lang/invoke/MethodHandle" ∧ yX7_claimed.cls ≠ "java/lang/invoke/VarHandle" ∧ (parseMethodDescriptor yX7_claimed.desc).map (fun d => d.parameters.length) = some 2 := ⟨by decide, by decide, by decide +kernel⟩
theorem wm_L_44 : (Cond.methodLink RL 44 yX7_claimed) ∈ gW := gW_of (tb_4 (List.mem_of_getElem? (i := 63) (by decide +kernel))) (by decide +kernel)
theorem wi_X7_claimed : (Cond.instanceMethod yX7_claimed) ∈ gW := gW_of (tb_4 (List.mem_of_getElem? (i := 64) (by decide +kernel))) (by decide +kernel)
theorem ws_X7_claimed : (Cond.selects yX7_claimed.cls yX7_claimed yX7_claimed) ∈ gW := gW_of (tb_4 (List.mem_of_getElem? (i := 65) (by decide +kernel))) (by decide +kernel)
theorem kL_44 : xVk RL 44 yX7_claimed cX7_claimed 3 (some .int) 2 7 := ⟨wm_L_44, wi_X7_claimed, ws_X7_claimed, wz_X7, wc_X7_claimed, pd_X7_claimed, TX7, 10, rfl⟩
theorem wc_X7_reason : (Cond.code yX7_reason cX7_reason 1 (some .int)) ∈ gW := gW_of (tb_4 (List.mem_of_getElem? (i := 80) (by decide +kernel))) (by decide +kernel)
theorem pd_X7_reason : yX7_reason.cls ≠ "java/lang/invoke/MethodHandle" ∧ yX7_reason.cls ≠ "java/lang/invoke/VarHandle" ∧ (parseMethodDescriptor yX7_reason.desc).map (fun d => d.parameters.length) = some 0 := ⟨by decide, by decide, by decide +kernel⟩
theorem wm_L_47 : (Cond.methodLink RL 47 yX7_reason) ∈ gW := gW_of (tb_4 (List.mem_of_getElem? (i := 77) (by decide +kernel))) (by decide +kernel)
theorem wi_X7_reason : (Cond.instanceMethod yX7_reason) ∈ gW := gW_of (tb_4 (List.mem_of_getElem? (i := 78) (by decide +kernel))) (by decide +kernel)
theorem ws_X7_reason : (Cond.selects yX7_reason.cls yX7_reason yX7_reason) ∈ gW := gW_of (tb_4 (List.mem_of_getElem? (i := 79) (by decide +kernel))) (by decide +kernel)
theorem kL_47 : xVk RL 47 yX7_reason cX7_reason 1 (some .int) 0 7 := ⟨wm_L_47, wi_X7_reason, ws_X7_reason, wz_X7, wc_X7_reason, pd_X7_reason, TX7, 10, rfl⟩
theorem w_classLink_RL_51_java_util_NoSuchElementException_ : (Cond.classLink RL 51 "java/util/NoSuchElementException") ∈ gW := gW_of (tb_4 (List.mem_of_getElem? (i := 76) (by decide +kernel))) (by decide +kernel)
theorem wc_X7_fees : (Cond.code yX7_fees cX7_fees 2 (some .long)) ∈ gW := gW_of (tb_4 (List.mem_of_getElem? (i := 102) (by decide +kernel))) (by decide +kernel)
theorem pd_X7_fees : yX7_fees.cls ≠ "java/lang/invoke/MethodHandle" ∧ yX7_fees.cls ≠ "java/lang/invoke/VarHandle" ∧ (parseMethodDescriptor yX7_fees.desc).map (fun d => d.parameters.length) = some 1 := ⟨by decide, by decide, by decide +kernel⟩
theorem wm_L_53 : (Cond.methodLink RL 53 yX7_fees) ∈ gW := gW_of (tb_4 (List.mem_of_getElem? (i := 99) (by decide +kernel))) (by decide +kernel)
theorem wi_X7_fees : (Cond.instanceMethod yX7_fees) ∈ gW := gW_of (tb_4 (List.mem_of_getElem? (i := 100) (by decide +kernel))) (by decide +kernel)
theorem ws_X7_fees : (Cond.selects yX7_fees.cls yX7_fees yX7_fees) ∈ gW := gW_of (tb_4 (List.mem_of_getElem? (i := 101) (by decide +kernel))) (by decide +kernel)
theorem kL_53 : xVk RL 53 yX7_fees cX7_fees 2 (some .long) 1 7 := ⟨wm_L_53, wi_X7_fees, ws_X7_fees, wz_X7, wc_X7_fees, pd_X7_fees, TX7, 10, rfl⟩
theorem wc_X7_wouldBe : (Cond.code yX7_wouldBe cX7_wouldBe 2 (some .long)) ∈ gW := gW_of (tb_4 (List.mem_of_getElem? (i := 111) (by decide +kernel))) (by decide +kernel)
theorem pd_X7_wouldBe : yX7_wouldBe.cls ≠ "java/lang/invoke/MethodHandle" ∧ yX7_wouldBe.cls ≠ "java/lang/invoke/VarHandle" ∧ (parseMethodDescriptor yX7_wouldBe.desc).map (fun d => d.parameters.length) = some 1 := ⟨by decide, by decide, by decide +kernel⟩
theorem wm_L_57 : (Cond.methodLink RL 57 yX7_wouldBe) ∈ gW := gW_of (tb_4 (List.mem_of_getElem? (i := 108) (by decide +kernel))) (by decide +kernel)
theorem wi_X7_wouldBe : (Cond.instanceMethod yX7_wouldBe) ∈ gW := gW_of (tb_4 (List.mem_of_getElem? (i := 109) (by decide +kernel))) (by decide +kernel)
theorem ws_X7_wouldBe : (Cond.selects yX7_wouldBe.cls yX7_wouldBe yX7_wouldBe) ∈ gW := gW_of (tb_4 (List.mem_of_getElem? (i := 110) (by decide +kernel))) (by decide +kernel)
theorem kL_57 : xVk RL 57 yX7_wouldBe cX7_wouldBe 2 (some .long) 1 7 := ⟨wm_L_57, wi_X7_wouldBe, ws_X7_wouldBe, wz_X7, wc_X7_wouldBe, pd_X7_wouldBe, TX7, 10, rfl⟩
theorem wc_X7_side : (Cond.code yX7_side cX7_side 3 (some .long)) ∈ gW := gW_of (tb_4 (List.mem_of_getElem? (i := 120) (by decide +kernel))) (by decide +kernel)
theorem pd_X7_side : yX7_side.cls ≠ "java/lang/invoke/MethodHandle" ∧ yX7_side.cls ≠ "java/lang/invoke/VarHandle" ∧ (parseMethodDescriptor yX7_side.desc).map (fun d => d.parameters.length) = some 2 := ⟨by decide, by decide, by decide +kernel⟩
theorem wm_L_60 : (Cond.methodLink RL 60 yX7_side) ∈ gW := gW_of (tb_4 (List.mem_of_getElem? (i := 117) (by decide +kernel))) (by decide +kernel)
theorem wi_X7_side : (Cond.instanceMethod yX7_side) ∈ gW := gW_of (tb_4 (List.mem_of_getElem? (i := 118) (by decide +kernel))) (by decide +kernel)
theorem ws_X7_side : (Cond.selects yX7_side.cls yX7_side yX7_side) ∈ gW := gW_of (tb_4 (List.mem_of_getElem? (i := 119) (by decide +kernel))) (by decide +kernel)
theorem kL_60 : xVk RL 60 yX7_side cX7_side 3 (some .long) 2 7 := ⟨wm_L_60, wi_X7_side, ws_X7_side, wz_X7, wc_X7_side, pd_X7_side, TX7, 10, rfl⟩
theorem wc_X7_call : (Cond.code yX7_call cX7_call 2 (some .long)) ∈ gW := gW_of (tb_4 (List.mem_of_getElem? (i := 136) (by decide +kernel))) (by decide +kernel)
theorem pd_X7_call : yX7_call.cls ≠ "java/lang/invoke/MethodHandle" ∧ yX7_call.cls ≠ "java/lang/invoke/VarHandle" ∧ (parseMethodDescriptor yX7_call.desc).map (fun d => d.parameters.length) = some 1 := ⟨by decide, by decide, by decide +kernel⟩
theorem wm_L_63 : (Cond.methodLink RL 63 yX7_call) ∈ gW := gW_of (tb_4 (List.mem_of_getElem? (i := 133) (by decide +kernel))) (by decide +kernel)
theorem wi_X7_call : (Cond.instanceMethod yX7_call) ∈ gW := gW_of (tb_4 (List.mem_of_getElem? (i := 134) (by decide +kernel))) (by decide +kernel)
theorem ws_X7_call : (Cond.selects yX7_call.cls yX7_call yX7_call) ∈ gW := gW_of (tb_4 (List.mem_of_getElem? (i := 135) (by decide +kernel))) (by decide +kernel)
theorem kL_63 : xVk RL 63 yX7_call cX7_call 2 (some .long) 1 7 := ⟨wm_L_63, wi_X7_call, ws_X7_call, wz_X7, wc_X7_call, pd_X7_call, TX7, 10, rfl⟩
theorem wc_X7_pay : (Cond.code yX7_pay cX7_pay 3 (some .long)) ∈ gW := gW_of (tb_4 (List.mem_of_getElem? (i := 148) (by decide +kernel))) (by decide +kernel)
theorem pd_X7_pay : yX7_pay.cls ≠ "java/lang/invoke/MethodHandle" ∧ yX7_pay.cls ≠ "java/lang/invoke/VarHandle" ∧ (parseMethodDescriptor yX7_pay.desc).map (fun d => d.parameters.length) = some 2 := ⟨by decide, by decide, by decide +kernel⟩
theorem wm_L_66 : (Cond.methodLink RL 66 yX7_pay) ∈ gW := gW_of (tb_4 (List.mem_of_getElem? (i := 145) (by decide +kernel))) (by decide +kernel)
theorem wi_X7_pay : (Cond.instanceMethod yX7_pay) ∈ gW := gW_of (tb_4 (List.mem_of_getElem? (i := 146) (by decide +kernel))) (by decide +kernel)
theorem ws_X7_pay : (Cond.selects yX7_pay.cls yX7_pay yX7_pay) ∈ gW := gW_of (tb_4 (List.mem_of_getElem? (i := 147) (by decide +kernel))) (by decide +kernel)
theorem kL_66 : xVk RL 66 yX7_pay cX7_pay 3 (some .long) 2 7 := ⟨wm_L_66, wi_X7_pay, ws_X7_pay, wz_X7, wc_X7_pay, pd_X7_pay, TX7, 10, rfl⟩
theorem wc_X7_payFor : (Cond.code yX7_payFor cX7_payFor 3 (some .long)) ∈ gW := gW_of (tb_4 (List.mem_of_getElem? (i := 165) (by decide +kernel))) (by decide +kernel)
theorem pd_X7_payFor : yX7_payFor.cls ≠ "java/lang/invoke/MethodHandle" ∧ yX7_payFor.cls ≠ "java/lang/invoke/VarHandle" ∧ (parseMethodDescriptor yX7_payFor.desc).map (fun d => d.parameters.length) = some 2 := ⟨by decide, by decide, by decide +kernel⟩
theorem wm_L_69 : (Cond.methodLink RL 69 yX7_payFor) ∈ gW := gW_of (tb_4 (List.mem_of_getElem? (i := 162) (by decide +kernel))) (by decide +kernel)
theorem wi_X7_payFor : (Cond.instanceMethod yX7_payFor) ∈ gW := gW_of (tb_4 (List.mem_of_getElem? (i := 163) (by decide +kernel))) (by decide +kernel)
theorem ws_X7_payFor : (Cond.selects yX7_payFor.cls yX7_payFor yX7_payFor) ∈ gW := gW_of (tb_4 (List.mem_of_getElem? (i := 164) (by decide +kernel))) (by decide +kernel)
theorem kL_69 : xVk RL 69 yX7_payFor cX7_payFor 3 (some .long) 2 7 := ⟨wm_L_69, wi_X7_payFor, ws_X7_payFor, wz_X7, wc_X7_payFor, pd_X7_payFor, TX7, 10, rfl⟩
theorem wc_X7_giveBack : (Cond.code yX7_giveBack cX7_giveBack 1 (some .long)) ∈ gW := gW_of (tb_4 (List.mem_of_getElem? (i := 182) (by decide +kernel))) (by decide +kernel)
theorem pd_X7_giveBack : yX7_giveBack.cls ≠ "java/lang/invoke/MethodHandle" ∧ yX7_giveBack.cls ≠ "java/lang/invoke/VarHandle" ∧ (parseMethodDescriptor yX7_giveBack.desc).map (fun d => d.parameters.length) = some 0 := ⟨by decide, by decide, by decide +kernel⟩
theorem wm_L_72 : (Cond.methodLink RL 72 yX7_giveBack) ∈ gW := gW_of (tb_4 (List.mem_of_getElem? (i := 179) (by decide +kernel))) (by decide +kernel)
theorem wi_X7_giveBack : (Cond.instanceMethod yX7_giveBack) ∈ gW := gW_of (tb_4 (List.mem_of_getElem? (i := 180) (by decide +kernel))) (by decide +kernel)
theorem ws_X7_giveBack : (Cond.selects yX7_giveBack.cls yX7_giveBack yX7_giveBack) ∈ gW := gW_of (tb_4 (List.mem_of_getElem? (i := 181) (by decide +kernel))) (by decide +kernel)
theorem kL_72 : xVk RL 72 yX7_giveBack cX7_giveBack 1 (some .long) 0 7 := ⟨wm_L_72, wi_X7_giveBack, ws_X7_giveBack, wz_X7, wc_X7_giveBack, pd_X7_giveBack, TX7, 10, rfl⟩
theorem wc_X7_owed : (Cond.code yX7_owed cX7_owed 3 (some .long)) ∈ gW := gW_of (tb_4 (List.mem_of_getElem? (i := 194) (by decide +kernel))) (by decide +kernel)
theorem pd_X7_owed : yX7_owed.cls ≠ "java/lang/invoke/MethodHandle" ∧ yX7_owed.cls ≠ "java/lang/invoke/VarHandle" ∧ (parseMethodDescriptor yX7_owed.desc).map (fun d => d.parameters.length) = some 2 := ⟨by decide, by decide, by decide +kernel⟩
theorem wm_L_76 : (Cond.methodLink RL 76 yX7_owed) ∈ gW := gW_of (tb_4 (List.mem_of_getElem? (i := 191) (by decide +kernel))) (by decide +kernel)
theorem wi_X7_owed : (Cond.instanceMethod yX7_owed) ∈ gW := gW_of (tb_4 (List.mem_of_getElem? (i := 192) (by decide +kernel))) (by decide +kernel)
theorem ws_X7_owed : (Cond.selects yX7_owed.cls yX7_owed yX7_owed) ∈ gW := gW_of (tb_4 (List.mem_of_getElem? (i := 193) (by decide +kernel))) (by decide +kernel)
theorem kL_76 : xVk RL 76 yX7_owed cX7_owed 3 (some .long) 2 7 := ⟨wm_L_76, wi_X7_owed, ws_X7_owed, wz_X7, wc_X7_owed, pd_X7_owed, TX7, 10, rfl⟩
theorem wc_X7_debt : (Cond.code yX7_debt cX7_debt 3 (some .long)) ∈ gW := gW_of (tb_4 (List.mem_of_getElem? (i := 203) (by decide +kernel))) (by decide +kernel)
theorem pd_X7_debt : yX7_debt.cls ≠ "java/lang/invoke/MethodHandle" ∧ yX7_debt.cls ≠ "java/lang/invoke/VarHandle" ∧ (parseMethodDescriptor yX7_debt.desc).map (fun d => d.parameters.length) = some 2 := ⟨by decide, by decide, by decide +kernel⟩
theorem wm_L_79 : (Cond.methodLink RL 79 yX7_debt) ∈ gW := gW_of (tb_4 (List.mem_of_getElem? (i := 200) (by decide +kernel))) (by decide +kernel)
theorem wi_X7_debt : (Cond.instanceMethod yX7_debt) ∈ gW := gW_of (tb_4 (List.mem_of_getElem? (i := 201) (by decide +kernel))) (by decide +kernel)
theorem ws_X7_debt : (Cond.selects yX7_debt.cls yX7_debt yX7_debt) ∈ gW := gW_of (tb_4 (List.mem_of_getElem? (i := 202) (by decide +kernel))) (by decide +kernel)
theorem kL_79 : xVk RL 79 yX7_debt cX7_debt 3 (some .long) 2 7 := ⟨wm_L_79, wi_X7_debt, ws_X7_debt, wz_X7, wc_X7_debt, pd_X7_debt, TX7, 10, rfl⟩
theorem wc_X7_settle : (Cond.code yX7_settle cX7_settle 4 (some .long)) ∈ gW := gW_of (tb_4 (List.mem_of_getElem? (i := 218) (by decide +kernel))) (by decide +kernel)
theorem pd_X7_settle : yX7_settle.cls ≠ "java/lang/invoke/MethodHandle" ∧ yX7_settle.cls ≠ "java/lang/invoke/VarHandle" ∧ (parseMethodDescriptor yX7_settle.desc).map (fun d => d.parameters.length) = some 3 := ⟨by decide, by decide, by decide +kernel⟩
theorem wm_L_82 : (Cond.methodLink RL 82 yX7_settle) ∈ gW := gW_of (tb_4 (List.mem_of_getElem? (i := 215) (by decide +kernel))) (by decide +kernel)
theorem wi_X7_settle : (Cond.instanceMethod yX7_settle) ∈ gW := gW_of (tb_4 (List.mem_of_getElem? (i := 216) (by decide +kernel))) (by decide +kernel)
theorem ws_X7_settle : (Cond.selects yX7_settle.cls yX7_settle yX7_settle) ∈ gW := gW_of (tb_4 (List.mem_of_getElem? (i := 217) (by decide +kernel))) (by decide +kernel)
theorem kL_82 : xVk RL 82 yX7_settle cX7_settle 4 (some .long) 3 7 := ⟨wm_L_82, wi_X7_settle, ws_X7_settle, wz_X7, wc_X7_settle, pd_X7_settle, TX7, 10, rfl⟩
theorem wc_X7_offset : (Cond.code yX7_offset cX7_offset 3 (some .long)) ∈ gW := gW_of (tb_4 (List.mem_of_getElem? (i := 233) (by decide +kernel))) (by decide +kernel)
theorem pd_X7_offset : yX7_offset.cls ≠ "java/lang/invoke/MethodHandle" ∧ yX7_offset.cls ≠ "java/lang/invoke/VarHandle" ∧ (parseMethodDescriptor yX7_offset.desc).map (fun d => d.parameters.length) = some 2 := ⟨by decide, by decide, by decide +kernel⟩
theorem wm_L_86 : (Cond.methodLink RL 86 yX7_offset) ∈ gW := gW_of (tb_4 (List.mem_of_getElem? (i := 230) (by decide +kernel))) (by decide +kernel)
theorem wi_X7_offset : (Cond.instanceMethod yX7_offset) ∈ gW := gW_of (tb_4 (List.mem_of_getElem? (i := 231) (by decide +kernel))) (by decide +kernel)
theorem ws_X7_offset : (Cond.selects yX7_offset.cls yX7_offset yX7_offset) ∈ gW := gW_of (tb_4 (List.mem_of_getElem? (i := 232) (by decide +kernel))) (by decide +kernel)
theorem kL_86 : xVk RL 86 yX7_offset cX7_offset 3 (some .long) 2 7 := ⟨wm_L_86, wi_X7_offset, ws_X7_offset, wz_X7, wc_X7_offset, pd_X7_offset, TX7, 10, rfl⟩
theorem wc_X7_ring : (Cond.code yX7_ring cX7_ring 2 (some .int)) ∈ gW := gW_of (tb_5 (List.mem_of_getElem? (i := 8) (by decide +kernel))) (by decide +kernel)
theorem pd_X7_ring : yX7_ring.cls ≠ "java/lang/invoke/MethodHandle" ∧ yX7_ring.cls ≠ "java/lang/invoke/VarHandle" ∧ (parseMethodDescriptor yX7_ring.desc).map (fun d => d.parameters.length) = some 1 := ⟨by decide, by decide, by decide +kernel⟩
theorem wm_L_89 : (Cond.methodLink RL 89 yX7_ring) ∈ gW := gW_of (tb_5 (List.mem_of_getElem? (i := 5) (by decide +kernel))) (by decide +kernel)
theorem wi_X7_ring : (Cond.instanceMethod yX7_ring) ∈ gW := gW_of (tb_5 (List.mem_of_getElem? (i := 6) (by decide +kernel))) (by decide +kernel)
theorem ws_X7_ring : (Cond.selects yX7_ring.cls yX7_ring yX7_ring) ∈ gW := gW_of (tb_5 (List.mem_of_getElem? (i := 7) (by decide +kernel))) (by decide +kernel)
theorem kL_89 : xVk RL 89 yX7_ring cX7_ring 2 (some .int) 1 7 := ⟨wm_L_89, wi_X7_ring, ws_X7_ring, wz_X7, wc_X7_ring, pd_X7_ring, TX7, 10, rfl⟩
theorem wc_X7_net : (Cond.code yX7_net cX7_net 2 (some .long)) ∈ gW := gW_of (tb_5 (List.mem_of_getElem? (i := 16) (by decide +kernel))) (by decide +kernel)
theorem pd_X7_net : yX7_net.cls ≠ "java/lang/invoke/MethodHandle" ∧ yX7_net.cls ≠ "java/lang/invoke/VarHandle" ∧ (parseMethodDescriptor yX7_net.desc).map (fun d => d.parameters.length) = some 1 := ⟨by decide, by decide, by decide +kernel⟩
theorem wm_L_93 : (Cond.methodLink RL 93 yX7_net) ∈ gW := gW_of (tb_5 (List.mem_of_getElem? (i := 13) (by decide +kernel))) (by decide +kernel)
theorem wi_X7_net : (Cond.instanceMethod yX7_net) ∈ gW := gW_of (tb_5 (List.mem_of_getElem? (i := 14) (by decide +kernel))) (by decide +kernel)
theorem ws_X7_net : (Cond.selects yX7_net.cls yX7_net yX7_net) ∈ gW := gW_of (tb_5 (List.mem_of_getElem? (i := 15) (by decide +kernel))) (by decide +kernel)
theorem kL_93 : xVk RL 93 yX7_net cX7_net 2 (some .long) 1 7 := ⟨wm_L_93, wi_X7_net, ws_X7_net, wz_X7, wc_X7_net, pd_X7_net, TX7, 10, rfl⟩
theorem wc_X7_growsTo : (Cond.code yX7_growsTo cX7_growsTo 5 (some .int)) ∈ gW := gW_of (tb_5 (List.mem_of_getElem? (i := 25) (by decide +kernel))) (by decide +kernel)
theorem pd_X7_growsTo : yX7_growsTo.cls ≠ "java/lang/invoke/MethodHandle" ∧ yX7_growsTo.cls ≠ "java/lang/invoke/VarHandle" ∧ (parseMethodDescriptor yX7_growsTo.desc).map (fun d => d.parameters.length) = some 2 := ⟨by decide, by decide, by decide +kernel⟩
theorem wm_L_96 : (Cond.methodLink RL 96 yX7_growsTo) ∈ gW := gW_of (tb_5 (List.mem_of_getElem? (i := 22) (by decide +kernel))) (by decide +kernel)
theorem wi_X7_growsTo : (Cond.instanceMethod yX7_growsTo) ∈ gW := gW_of (tb_5 (List.mem_of_getElem? (i := 23) (by decide +kernel))) (by decide +kernel)
theorem ws_X7_growsTo : (Cond.selects yX7_growsTo.cls yX7_growsTo yX7_growsTo) ∈ gW := gW_of (tb_5 (List.mem_of_getElem? (i := 24) (by decide +kernel))) (by decide +kernel)
theorem kL_96 : xVk RL 96 yX7_growsTo cX7_growsTo 5 (some .int) 2 7 := ⟨wm_L_96, wi_X7_growsTo, ws_X7_growsTo, wz_X7, wc_X7_growsTo, pd_X7_growsTo, TX7, 10, rfl⟩
theorem wc_X7_pass : (Cond.code yX7_pass cX7_pass 2 (some .long)) ∈ gW := gW_of (tb_5 (List.mem_of_getElem? (i := 40) (by decide +kernel))) (by decide +kernel)
theorem pd_X7_pass : yX7_pass.cls ≠ "java/lang/invoke/MethodHandle" ∧ yX7_pass.cls ≠ "java/lang/invoke/VarHandle" ∧ (parseMethodDescriptor yX7_pass.desc).map (fun d => d.parameters.length) = some 1 := ⟨by decide, by decide, by decide +kernel⟩
theorem wm_L_99 : (Cond.methodLink RL 99 yX7_pass) ∈ gW := gW_of (tb_5 (List.mem_of_getElem? (i := 37) (by decide +kernel))) (by decide +kernel)
theorem wi_X7_pass : (Cond.instanceMethod yX7_pass) ∈ gW := gW_of (tb_5 (List.mem_of_getElem? (i := 38) (by decide +kernel))) (by decide +kernel)
theorem ws_X7_pass : (Cond.selects yX7_pass.cls yX7_pass yX7_pass) ∈ gW := gW_of (tb_5 (List.mem_of_getElem? (i := 39) (by decide +kernel))) (by decide +kernel)
theorem kL_99 : xVk RL 99 yX7_pass cX7_pass 2 (some .long) 1 7 := ⟨wm_L_99, wi_X7_pass, ws_X7_pass, wz_X7, wc_X7_pass, pd_X7_pass, TX7, 10, rfl⟩
theorem wc_X7_goOn : (Cond.code yX7_goOn cX7_goOn 1 (some .int)) ∈ gW := gW_of (tb_5 (List.mem_of_getElem? (i := 60) (by decide +kernel))) (by decide +kernel)
theorem pd_X7_goOn : yX7_goOn.cls ≠ "java/lang/invoke/MethodHandle" ∧ yX7_goOn.cls ≠ "java/lang/invoke/VarHandle" ∧ (parseMethodDescriptor yX7_goOn.desc).map (fun d => d.parameters.length) = some 0 := ⟨by decide, by decide, by decide +kernel⟩
theorem wm_L_102 : (Cond.methodLink RL 102 yX7_goOn) ∈ gW := gW_of (tb_5 (List.mem_of_getElem? (i := 57) (by decide +kernel))) (by decide +kernel)
theorem wi_X7_goOn : (Cond.instanceMethod yX7_goOn) ∈ gW := gW_of (tb_5 (List.mem_of_getElem? (i := 58) (by decide +kernel))) (by decide +kernel)
theorem ws_X7_goOn : (Cond.selects yX7_goOn.cls yX7_goOn yX7_goOn) ∈ gW := gW_of (tb_5 (List.mem_of_getElem? (i := 59) (by decide +kernel))) (by decide +kernel)
theorem kL_102 : xVk RL 102 yX7_goOn cX7_goOn 1 (some .int) 0 7 := ⟨wm_L_102, wi_X7_goOn, ws_X7_goOn, wz_X7, wc_X7_goOn, pd_X7_goOn, TX7, 10, rfl⟩
theorem wc_X7_account : (Cond.code yX7_account cX7_account 2 (some .long)) ∈ gW := gW_of (tb_5 (List.mem_of_getElem? (i := 75) (by decide +kernel))) (by decide +kernel)
theorem pd_X7_account : yX7_account.cls ≠ "java/lang/invoke/MethodHandle" ∧ yX7_account.cls ≠ "java/lang/invoke/VarHandle" ∧ (parseMethodDescriptor yX7_account.desc).map (fun d => d.parameters.length) = some 1 := ⟨by decide, by decide, by decide +kernel⟩
theorem wm_L_105 : (Cond.methodLink RL 105 yX7_account) ∈ gW := gW_of (tb_5 (List.mem_of_getElem? (i := 72) (by decide +kernel))) (by decide +kernel)
theorem wi_X7_account : (Cond.instanceMethod yX7_account) ∈ gW := gW_of (tb_5 (List.mem_of_getElem? (i := 73) (by decide +kernel))) (by decide +kernel)
theorem ws_X7_account : (Cond.selects yX7_account.cls yX7_account yX7_account) ∈ gW := gW_of (tb_5 (List.mem_of_getElem? (i := 74) (by decide +kernel))) (by decide +kernel)
theorem kL_105 : xVk RL 105 yX7_account cX7_account 2 (some .long) 1 7 := ⟨wm_L_105, wi_X7_account, ws_X7_account, wz_X7, wc_X7_account, pd_X7_account, TX7, 10, rfl⟩
theorem wc_X7_entry : (Cond.code yX7_entry cX7_entry 3 (some .long)) ∈ gW := gW_of (tb_5 (List.mem_of_getElem? (i := 99) (by decide +kernel))) (by decide +kernel)
theorem pd_X7_entry : yX7_entry.cls ≠ "java/lang/invoke/MethodHandle" ∧ yX7_entry.cls ≠ "java/lang/invoke/VarHandle" ∧ (parseMethodDescriptor yX7_entry.desc).map (fun d => d.parameters.length) = some 2 := ⟨by decide, by decide, by decide +kernel⟩
theorem wm_L_108 : (Cond.methodLink RL 108 yX7_entry) ∈ gW := gW_of (tb_5 (List.mem_of_getElem? (i := 96) (by decide +kernel))) (by decide +kernel)
theorem wi_X7_entry : (Cond.instanceMethod yX7_entry) ∈ gW := gW_of (tb_5 (List.mem_of_getElem? (i := 97) (by decide +kernel))) (by decide +kernel)
theorem ws_X7_entry : (Cond.selects yX7_entry.cls yX7_entry yX7_entry) ∈ gW := gW_of (tb_5 (List.mem_of_getElem? (i := 98) (by decide +kernel))) (by decide +kernel)
theorem kL_108 : xVk RL 108 yX7_entry cX7_entry 3 (some .long) 2 7 := ⟨wm_L_108, wi_X7_entry, ws_X7_entry, wz_X7, wc_X7_entry, pd_X7_entry, TX7, 10, rfl⟩
theorem wc_X7_quota : (Cond.code yX7_quota cX7_quota 4 (some .double)) ∈ gW := gW_of (tb_5 (List.mem_of_getElem? (i := 124) (by decide +kernel))) (by decide +kernel)
theorem pd_X7_quota : yX7_quota.cls ≠ "java/lang/invoke/MethodHandle" ∧ yX7_quota.cls ≠ "java/lang/invoke/VarHandle" ∧ (parseMethodDescriptor yX7_quota.desc).map (fun d => d.parameters.length) = some 1 := ⟨by decide, by decide, by decide +kernel⟩
theorem wm_L_112 : (Cond.methodLink RL 112 yX7_quota) ∈ gW := gW_of (tb_5 (List.mem_of_getElem? (i := 121) (by decide +kernel))) (by decide +kernel)
theorem wi_X7_quota : (Cond.instanceMethod yX7_quota) ∈ gW := gW_of (tb_5 (List.mem_of_getElem? (i := 122) (by decide +kernel))) (by decide +kernel)
theorem ws_X7_quota : (Cond.selects yX7_quota.cls yX7_quota yX7_quota) ∈ gW := gW_of (tb_5 (List.mem_of_getElem? (i := 123) (by decide +kernel))) (by decide +kernel)
theorem kL_112 : xVk RL 112 yX7_quota cX7_quota 4 (some .double) 1 7 := ⟨wm_L_112, wi_X7_quota, ws_X7_quota, wz_X7, wc_X7_quota, pd_X7_quota, TX7, 10, rfl⟩
theorem w_classLink_RL_116_java_lang_ArithmeticException_ : (Cond.classLink RL 116 "java/lang/ArithmeticException") ∈ gW := gW_of (tb_5 (List.mem_of_getElem? (i := 107) (by decide +kernel))) (by decide +kernel)
theorem wc_X7_append : (Cond.code yX7_append cX7_append 2 (some .int)) ∈ gW := gW_of (tb_5 (List.mem_of_getElem? (i := 144) (by decide +kernel))) (by decide +kernel)
theorem pd_X7_append : yX7_append.cls ≠ "java/lang/invoke/MethodHandle" ∧ yX7_append.cls ≠ "java/lang/invoke/VarHandle" ∧ (parseMethodDescriptor yX7_append.desc).map (fun d => d.parameters.length) = some 1 := ⟨by decide, by decide, by decide +kernel⟩
theorem wm_L_118 : (Cond.methodLink RL 118 yX7_append) ∈ gW := gW_of (tb_5 (List.mem_of_getElem? (i := 141) (by decide +kernel))) (by decide +kernel)
theorem wi_X7_append : (Cond.instanceMethod yX7_append) ∈ gW := gW_of (tb_5 (List.mem_of_getElem? (i := 142) (by decide +kernel))) (by decide +kernel)
theorem ws_X7_append : (Cond.selects yX7_append.cls yX7_append yX7_append) ∈ gW := gW_of (tb_5 (List.mem_of_getElem? (i := 143) (by decide +kernel))) (by decide +kernel)
theorem kL_118 : xVk RL 118 yX7_append cX7_append 2 (some .int) 1 7 := ⟨wm_L_118, wi_X7_append, ws_X7_append, wz_X7, wc_X7_append, pd_X7_append, TX7, 10, rfl⟩
theorem wc_X7_read : (Cond.code yX7_read cX7_read 3 (some .int)) ∈ gW := gW_of (tb_5 (List.mem_of_getElem? (i := 155) (by decide +kernel))) (by decide +kernel)
theorem pd_X7_read : yX7_read.cls ≠ "java/lang/invoke/MethodHandle" ∧ yX7_read.cls ≠ "java/lang/invoke/VarHandle" ∧ (parseMethodDescriptor yX7_read.desc).map (fun d => d.parameters.length) = some 0 := ⟨by decide, by decide, by decide +kernel⟩
theorem wm_L_122 : (Cond.methodLink RL 122 yX7_read) ∈ gW := gW_of (tb_5 (List.mem_of_getElem? (i := 152) (by decide +kernel))) (by decide +kernel)
theorem wi_X7_read : (Cond.instanceMethod yX7_read) ∈ gW := gW_of (tb_5 (List.mem_of_getElem? (i := 153) (by decide +kernel))) (by decide +kernel)
theorem ws_X7_read : (Cond.selects yX7_read.cls yX7_read yX7_read) ∈ gW := gW_of (tb_5 (List.mem_of_getElem? (i := 154) (by decide +kernel))) (by decide +kernel)
theorem kL_122 : xVk RL 122 yX7_read cX7_read 3 (some .int) 0 7 := ⟨wm_L_122, wi_X7_read, ws_X7_read, wz_X7, wc_X7_read, pd_X7_read, TX7, 10, rfl⟩
theorem wc_X7_errorPosition : (Cond.code yX7_errorPosition cX7_errorPosition 1 (some .int)) ∈ gW := gW_of (tb_5 (List.mem_of_getElem? (i := 203) (by decide +kernel))) (by decide +kernel)
theorem pd_X7_errorPosition : yX7_errorPosition.cls ≠ "java/lang/invoke/MethodHandle" ∧ yX7_errorPosition.cls ≠ "java/lang/invoke/VarHandle" ∧ (parseMethodDescriptor yX7_errorPosition.desc).map (fun d => d.parameters.length) = some 0 := ⟨by decide, by decide, by decide +kernel⟩
theorem wm_L_125 : (Cond.methodLink RL 125 yX7_errorPosition) ∈ gW := gW_of (tb_5 (List.mem_of_getElem? (i := 200) (by decide +kernel))) (by decide +kernel)
theorem wi_X7_errorPosition : (Cond.instanceMethod yX7_errorPosition) ∈ gW := gW_of (tb_5 (List.mem_of_getElem? (i := 201) (by decide +kernel))) (by decide +kernel)
theorem ws_X7_errorPosition : (Cond.selects yX7_errorPosition.cls yX7_errorPosition yX7_errorPosition) ∈ gW := gW_of (tb_5 (List.mem_of_getElem? (i := 202) (by decide +kernel))) (by decide +kernel)
theorem kL_125 : xVk RL 125 yX7_errorPosition cX7_errorPosition 1 (some .int) 0 7 := ⟨wm_L_125, wi_X7_errorPosition, ws_X7_errorPosition, wz_X7, wc_X7_errorPosition, pd_X7_errorPosition, TX7, 10, rfl⟩
theorem wc_X7_undo : (Cond.code yX7_undo cX7_undo 1 (some .int)) ∈ gW := gW_of (tb_5 (List.mem_of_getElem? (i := 210) (by decide +kernel))) (by decide +kernel)
theorem pd_X7_undo : yX7_undo.cls ≠ "java/lang/invoke/MethodHandle" ∧ yX7_undo.cls ≠ "java/lang/invoke/VarHandle" ∧ (parseMethodDescriptor yX7_undo.desc).map (fun d => d.parameters.length) = some 0 := ⟨by decide, by decide, by decide +kernel⟩
theorem wm_L_128 : (Cond.methodLink RL 128 yX7_undo) ∈ gW := gW_of (tb_5 (List.mem_of_getElem? (i := 207) (by decide +kernel))) (by decide +kernel)
theorem wi_X7_undo : (Cond.instanceMethod yX7_undo) ∈ gW := gW_of (tb_5 (List.mem_of_getElem? (i := 208) (by decide +kernel))) (by decide +kernel)
theorem ws_X7_undo : (Cond.selects yX7_undo.cls yX7_undo yX7_undo) ∈ gW := gW_of (tb_5 (List.mem_of_getElem? (i := 209) (by decide +kernel))) (by decide +kernel)
theorem kL_128 : xVk RL 128 yX7_undo cX7_undo 1 (some .int) 0 7 := ⟨wm_L_128, wi_X7_undo, ws_X7_undo, wz_X7, wc_X7_undo, pd_X7_undo, TX7, 10, rfl⟩
theorem wc_X7_restore : (Cond.code yX7_restore cX7_restore 1 (some .int)) ∈ gW := gW_of (tb_5 (List.mem_of_getElem? (i := 217) (by decide +kernel))) (by decide +kernel)
theorem pd_X7_restore : yX7_restore.cls ≠ "java/lang/invoke/MethodHandle" ∧ yX7_restore.cls ≠ "java/lang/invoke/VarHandle" ∧ (parseMethodDescriptor yX7_restore.desc).map (fun d => d.parameters.length) = some 0 := ⟨by decide, by decide, by decide +kernel⟩
theorem wm_L_131 : (Cond.methodLink RL 131 yX7_restore) ∈ gW := gW_of (tb_5 (List.mem_of_getElem? (i := 214) (by decide +kernel))) (by decide +kernel)
theorem wi_X7_restore : (Cond.instanceMethod yX7_restore) ∈ gW := gW_of (tb_5 (List.mem_of_getElem? (i := 215) (by decide +kernel))) (by decide +kernel)
theorem ws_X7_restore : (Cond.selects yX7_restore.cls yX7_restore yX7_restore) ∈ gW := gW_of (tb_5 (List.mem_of_getElem? (i := 216) (by decide +kernel))) (by decide +kernel)
theorem kL_131 : xVk RL 131 yX7_restore cX7_restore 1 (some .int) 0 7 := ⟨wm_L_131, wi_X7_restore, ws_X7_restore, wz_X7, wc_X7_restore, pd_X7_restore, TX7, 10, rfl⟩
theorem ac_X4_35 : xAcp RX4 35 := ⟨gW_of (tb_2 (List.mem_of_getElem? (i := 90) (by decide +kernel))) (by decide +kernel), gW_of (tb_2 (List.mem_of_getElem? (i := 65) (by decide +kernel))) (by decide +kernel), gW_of (tb_2 (List.mem_of_getElem? (i := 64) (by decide +kernel))) (by decide +kernel), gW_of (tb_1 (List.mem_of_getElem? (i := 10) (by decide +kernel))) (by decide +kernel)⟩
theorem ac_X1_34 : xAcp RX1 34 := ⟨gW_of (tb_2 (List.mem_of_getElem? (i := 95) (by decide +kernel))) (by decide +kernel), gW_of (tb_2 (List.mem_of_getElem? (i := 65) (by decide +kernel))) (by decide +kernel), gW_of (tb_2 (List.mem_of_getElem? (i := 64) (by decide +kernel))) (by decide +kernel), gW_of (tb_1 (List.mem_of_getElem? (i := 10) (by decide +kernel))) (by decide +kernel)⟩
theorem ac_X2_32 : xAcp RX2 32 := ⟨gW_of (tb_2 (List.mem_of_getElem? (i := 100) (by decide +kernel))) (by decide +kernel), gW_of (tb_2 (List.mem_of_getElem? (i := 65) (by decide +kernel))) (by decide +kernel), gW_of (tb_2 (List.mem_of_getElem? (i := 64) (by decide +kernel))) (by decide +kernel), gW_of (tb_1 (List.mem_of_getElem? (i := 10) (by decide +kernel))) (by decide +kernel)⟩
theorem ac_X3_23 : xAcp RX3 23 := ⟨gW_of (tb_2 (List.mem_of_getElem? (i := 105) (by decide +kernel))) (by decide +kernel), gW_of (tb_2 (List.mem_of_getElem? (i := 65) (by decide +kernel))) (by decide +kernel), gW_of (tb_2 (List.mem_of_getElem? (i := 64) (by decide +kernel))) (by decide +kernel), gW_of (tb_1 (List.mem_of_getElem? (i := 10) (by decide +kernel))) (by decide +kernel)⟩
theorem wc_X4_copyFrom : (Cond.code yX4_copyFrom cX4_copyFrom 2 none) ∈ gW := gW_of (tb_2 (List.mem_of_getElem? (i := 89) (by decide +kernel))) (by decide +kernel)
theorem pd_X4_copyFrom : yX4_copyFrom.cls ≠ "java/lang/invoke/MethodHandle" ∧ yX4_copyFrom.cls ≠ "java/lang/invoke/VarHandle" ∧ (parseMethodDescriptor yX4_copyFrom.desc).map (fun d => d.parameters.length) = some 1 := ⟨by decide, by decide, by decide +kernel⟩
theorem wm_X0_76 : (Cond.methodLink RX0 76 yX4_copyFrom) ∈ gW := gW_of (tb_2 (List.mem_of_getElem? (i := 86) (by decide +kernel))) (by decide +kernel)
theorem wi_X4_copyFrom : (Cond.instanceMethod yX4_copyFrom) ∈ gW := gW_of (tb_2 (List.mem_of_getElem? (i := 87) (by decide +kernel))) (by decide +kernel)
theorem ws_X4_copyFrom : (Cond.selects yX4_copyFrom.cls yX4_copyFrom yX4_copyFrom) ∈ gW := gW_of (tb_2 (List.mem_of_getElem? (i := 88) (by decide +kernel))) (by decide +kernel)
theorem kX0_76 : xVk RX0 76 yX4_copyFrom cX4_copyFrom 2 none 1 4 := ⟨wm_X0_76, wi_X4_copyFrom, ws_X4_copyFrom, wz_X4, wc_X4_copyFrom, pd_X4_copyFrom, TX4, 7, rfl⟩
theorem wc_X1_copyFrom : (Cond.code yX1_copyFrom cX1_copyFrom 2 none) ∈ gW := gW_of (tb_2 (List.mem_of_getElem? (i := 94) (by decide +kernel))) (by decide +kernel)
theorem pd_X1_copyFrom : yX1_copyFrom.cls ≠ "java/lang/invoke/MethodHandle" ∧ yX1_copyFrom.cls ≠ "java/lang/invoke/VarHandle" ∧ (parseMethodDescriptor yX1_copyFrom.desc).map (fun d => d.parameters.length) = some 1 := ⟨by decide, by decide, by decide +kernel⟩
theorem wm_X0_80 : (Cond.methodLink RX0 80 yX1_copyFrom) ∈ gW := gW_of (tb_2 (List.mem_of_getElem? (i := 91) (by decide +kernel))) (by decide +kernel)
theorem wi_X1_copyFrom : (Cond.instanceMethod yX1_copyFrom) ∈ gW := gW_of (tb_2 (List.mem_of_getElem? (i := 92) (by decide +kernel))) (by decide +kernel)
theorem ws_X1_copyFrom : (Cond.selects yX1_copyFrom.cls yX1_copyFrom yX1_copyFrom) ∈ gW := gW_of (tb_2 (List.mem_of_getElem? (i := 93) (by decide +kernel))) (by decide +kernel)
theorem kX0_80 : xVk RX0 80 yX1_copyFrom cX1_copyFrom 2 none 1 1 := ⟨wm_X0_80, wi_X1_copyFrom, ws_X1_copyFrom, wz_X1, wc_X1_copyFrom, pd_X1_copyFrom, TX1, 7, rfl⟩
theorem wc_X2_copyFrom : (Cond.code yX2_copyFrom cX2_copyFrom 2 none) ∈ gW := gW_of (tb_2 (List.mem_of_getElem? (i := 99) (by decide +kernel))) (by decide +kernel)
theorem pd_X2_copyFrom : yX2_copyFrom.cls ≠ "java/lang/invoke/MethodHandle" ∧ yX2_copyFrom.cls ≠ "java/lang/invoke/VarHandle" ∧ (parseMethodDescriptor yX2_copyFrom.desc).map (fun d => d.parameters.length) = some 1 := ⟨by decide, by decide, by decide +kernel⟩
theorem wm_X0_83 : (Cond.methodLink RX0 83 yX2_copyFrom) ∈ gW := gW_of (tb_2 (List.mem_of_getElem? (i := 96) (by decide +kernel))) (by decide +kernel)
theorem wi_X2_copyFrom : (Cond.instanceMethod yX2_copyFrom) ∈ gW := gW_of (tb_2 (List.mem_of_getElem? (i := 97) (by decide +kernel))) (by decide +kernel)
theorem ws_X2_copyFrom : (Cond.selects yX2_copyFrom.cls yX2_copyFrom yX2_copyFrom) ∈ gW := gW_of (tb_2 (List.mem_of_getElem? (i := 98) (by decide +kernel))) (by decide +kernel)
theorem kX0_83 : xVk RX0 83 yX2_copyFrom cX2_copyFrom 2 none 1 2 := ⟨wm_X0_83, wi_X2_copyFrom, ws_X2_copyFrom, wz_X2, wc_X2_copyFrom, pd_X2_copyFrom, TX2, 6, rfl⟩
theorem wc_X3_copyFrom : (Cond.code yX3_copyFrom cX3_copyFrom 2 none) ∈ gW := gW_of (tb_2 (List.mem_of_getElem? (i := 104) (by decide +kernel))) (by decide +kernel)
theorem pd_X3_copyFrom : yX3_copyFrom.cls ≠ "java/lang/invoke/MethodHandle" ∧ yX3_copyFrom.cls ≠ "java/lang/invoke/VarHandle" ∧ (parseMethodDescriptor yX3_copyFrom.desc).map (fun d => d.parameters.length) = some 1 := ⟨by decide, by decide, by decide +kernel⟩
theorem wm_X0_86 : (Cond.methodLink RX0 86 yX3_copyFrom) ∈ gW := gW_of (tb_2 (List.mem_of_getElem? (i := 101) (by decide +kernel))) (by decide +kernel)
theorem wi_X3_copyFrom : (Cond.instanceMethod yX3_copyFrom) ∈ gW := gW_of (tb_2 (List.mem_of_getElem? (i := 102) (by decide +kernel))) (by decide +kernel)
theorem ws_X3_copyFrom : (Cond.selects yX3_copyFrom.cls yX3_copyFrom yX3_copyFrom) ∈ gW := gW_of (tb_2 (List.mem_of_getElem? (i := 103) (by decide +kernel))) (by decide +kernel)
theorem kX0_86 : xVk RX0 86 yX3_copyFrom cX3_copyFrom 2 none 1 3 := ⟨wm_X0_86, wi_X3_copyFrom, ws_X3_copyFrom, wz_X3, wc_X3_copyFrom, pd_X3_copyFrom, TX3, 3, rfl⟩
