theorem wc_X7_clear : (Cond.code yX7_clear cX7_clear 2 (some .int)) ∈ gW := gW_of (tb_2 (List.mem_of_getElem? (i := 58) (by decide +kernel))) (by decide +kernel)
theorem pd_X7_clear : yX7_clear.cls ≠ "java/lang/invoke/MethodHandle" ∧ yX7_clear.cls ≠ "java/lang/invoke/VarHandle" ∧ (parseMethodDescriptor yX7_clear.desc).map (fun d => d.parameters.length) = some 0 := ⟨by decide, by decide, by decide +kernel⟩
theorem wm_L_138 : (Cond.methodLink RL 138 yX7_clear) ∈ gW := gW_of (tb_2 (List.mem_of_getElem? (i := 55) (by decide +kernel))) (by decide +kernel)
theorem wi_X7_clear : (Cond.instanceMethod yX7_clear) ∈ gW := gW_of (tb_2 (List.mem_of_getElem? (i := 56) (by decide +kernel))) (by decide +kernel)
theorem ws_X7_clear : (Cond.selects yX7_clear.cls yX7_clear yX7_clear) ∈ gW := gW_of (tb_2 (List.mem_of_getElem? (i := 57) (by decide +kernel))) (by decide +kernel)
theorem kL_138 : xVk RL 138 yX7_clear cX7_clear 2 (some .int) 0 7 := ⟨wm_L_138, wi_X7_clear, ws_X7_clear, wz_X7, wc_X7_clear, pd_X7_clear, TX7, 10, rfl⟩
theorem wc_X8_clear : (Cond.code yX8_clear cX8_clear 2 (some .int)) ∈ gW := gW_of (tb_6 (List.mem_of_getElem? (i := 60) (by decide +kernel))) (by decide +kernel)
theorem pd_X8_clear : yX8_clear.cls ≠ "java/lang/invoke/MethodHandle" ∧ yX8_clear.cls ≠ "java/lang/invoke/VarHandle" ∧ (parseMethodDescriptor yX8_clear.desc).map (fun d => d.parameters.length) = some 0 := ⟨by decide, by decide, by decide +kernel⟩
theorem wm_L_141 : (Cond.methodLink RL 141 yX8_clear) ∈ gW := gW_of (tb_6 (List.mem_of_getElem? (i := 57) (by decide +kernel))) (by decide +kernel)
theorem wi_X8_clear : (Cond.instanceMethod yX8_clear) ∈ gW := gW_of (tb_6 (List.mem_of_getElem? (i := 58) (by decide +kernel))) (by decide +kernel)
theorem ws_X8_clear : (Cond.selects yX8_clear.cls yX8_clear yX8_clear) ∈ gW := gW_of (tb_6 (List.mem_of_getElem? (i := 59) (by decide +kernel))) (by decide +kernel)
theorem kL_141 : xVk RL 141 yX8_clear cX8_clear 2 (some .int) 0 8 := ⟨wm_L_141, wi_X8_clear, ws_X8_clear, wz_X8, wc_X8_clear, pd_X8_clear, TX8, 19, rfl⟩
theorem wz_L : (Cond.initialized RL) ∈ gW := gW_of (tb_1 (List.mem_of_getElem? (i := 0) (by decide +kernel))) (by decide +kernel)
theorem wc_L_addParty : (Cond.codeWith yL_addParty cL_addParty 5 (some .int) [(0, 10, 13, 13), (0, 10, 17, 15)]) ∈ gW := gW_of (tb_2 (List.mem_of_getElem? (i := 231) (by decide +kernel))) (by decide +kernel)
theorem pd_L_addParty : yL_addParty.cls ≠ "java/lang/invoke/MethodHandle" ∧ yL_addParty.cls ≠ "java/lang/invoke/VarHandle" ∧ (parseMethodDescriptor yL_addParty.desc).map (fun d => d.parameters.length) = some 4 := ⟨by decide, by decide, by decide +kernel⟩
theorem wm_L_142 : (Cond.methodLink RL 142 yL_addParty) ∈ gW := gW_of (tb_2 (List.mem_of_getElem? (i := 229) (by decide +kernel))) (by decide +kernel)
theorem wt_L_addParty : (Cond.static yL_addParty) ∈ gW := gW_of (tb_2 (List.mem_of_getElem? (i := 230) (by decide +kernel))) (by decide +kernel)
theorem kL_142 : xHk RL 142 yL_addParty cL_addParty 5 (some .int) [(0, 10, 13, 13), (0, 10, 17, 15)] 4 := ⟨wm_L_142, wt_L_addParty, wz_L, wc_L_addParty, pd_L_addParty⟩
theorem wc_X8_addParty : (Cond.code yX8_addParty cX8_addParty 4 (some .int)) ∈ gW := gW_of (tb_6 (List.mem_of_getElem? (i := 68) (by decide +kernel))) (by decide +kernel)
theorem pd_X8_addParty : yX8_addParty.cls ≠ "java/lang/invoke/MethodHandle" ∧ yX8_addParty.cls ≠ "java/lang/invoke/VarHandle" ∧ (parseMethodDescriptor yX8_addParty.desc).map (fun d => d.parameters.length) = some 2 := ⟨by decide, by decide, by decide +kernel⟩
theorem wm_L_147 : (Cond.methodLink RL 147 yX8_addParty) ∈ gW := gW_of (tb_6 (List.mem_of_getElem? (i := 65) (by decide +kernel))) (by decide +kernel)
theorem wi_X8_addParty : (Cond.instanceMethod yX8_addParty) ∈ gW := gW_of (tb_6 (List.mem_of_getElem? (i := 66) (by decide +kernel))) (by decide +kernel)
theorem ws_X8_addParty : (Cond.selects yX8_addParty.cls yX8_addParty yX8_addParty) ∈ gW := gW_of (tb_6 (List.mem_of_getElem? (i := 67) (by decide +kernel))) (by decide +kernel)
theorem kL_147 : xVk RL 147 yX8_addParty cX8_addParty 4 (some .int) 2 8 := ⟨wm_L_147, wi_X8_addParty, ws_X8_addParty, wz_X8, wc_X8_addParty, pd_X8_addParty, TX8, 19, rfl⟩
theorem wc_X8_thrown : (Cond.code yX8_thrown cX8_thrown 1 (some .int)) ∈ gW := gW_of (tb_6 (List.mem_of_getElem? (i := 56) (by decide +kernel))) (by decide +kernel)
theorem pd_X8_thrown : yX8_thrown.cls ≠ "java/lang/invoke/MethodHandle" ∧ yX8_thrown.cls ≠ "java/lang/invoke/VarHandle" ∧ (parseMethodDescriptor yX8_thrown.desc).map (fun d => d.parameters.length) = some 0 := ⟨by decide, by decide, by decide +kernel⟩
theorem wm_L_148 : (Cond.methodLink RL 148 yX8_thrown) ∈ gW := gW_of (tb_6 (List.mem_of_getElem? (i := 53) (by decide +kernel))) (by decide +kernel)
theorem wi_X8_thrown : (Cond.instanceMethod yX8_thrown) ∈ gW := gW_of (tb_6 (List.mem_of_getElem? (i := 54) (by decide +kernel))) (by decide +kernel)
theorem ws_X8_thrown : (Cond.selects yX8_thrown.cls yX8_thrown yX8_thrown) ∈ gW := gW_of (tb_6 (List.mem_of_getElem? (i := 55) (by decide +kernel))) (by decide +kernel)
theorem kL_148 : xVk RL 148 yX8_thrown cX8_thrown 1 (some .int) 0 8 := ⟨wm_L_148, wi_X8_thrown, ws_X8_thrown, wz_X8, wc_X8_thrown, pd_X8_thrown, TX8, 19, rfl⟩
theorem wc_L_setRate : (Cond.codeWith yL_setRate cL_setRate 5 (some .int) [(0, 10, 13, 20), (0, 10, 17, 13)]) ∈ gW := gW_of (tb_3 (List.mem_of_getElem? (i := 93) (by decide +kernel))) (by decide +kernel)
theorem pd_L_setRate : yL_setRate.cls ≠ "java/lang/invoke/MethodHandle" ∧ yL_setRate.cls ≠ "java/lang/invoke/VarHandle" ∧ (parseMethodDescriptor yL_setRate.desc).map (fun d => d.parameters.length) = some 4 := ⟨by decide, by decide, by decide +kernel⟩
theorem wm_L_151 : (Cond.methodLink RL 151 yL_setRate) ∈ gW := gW_of (tb_3 (List.mem_of_getElem? (i := 91) (by decide +kernel))) (by decide +kernel)
theorem wt_L_setRate : (Cond.static yL_setRate) ∈ gW := gW_of (tb_3 (List.mem_of_getElem? (i := 92) (by decide +kernel))) (by decide +kernel)
theorem kL_151 : xHk RL 151 yL_setRate cL_setRate 5 (some .int) [(0, 10, 13, 20), (0, 10, 17, 13)] 4 := ⟨wm_L_151, wt_L_setRate, wz_L, wc_L_setRate, pd_L_setRate⟩
theorem wc_X8_setRate : (Cond.code yX8_setRate cX8_setRate 3 (some .int)) ∈ gW := gW_of (tb_6 (List.mem_of_getElem? (i := 87) (by decide +kernel))) (by decide +kernel)
theorem pd_X8_setRate : yX8_setRate.cls ≠ "java/lang/invoke/MethodHandle" ∧ yX8_setRate.cls ≠ "java/lang/invoke/VarHandle" ∧ (parseMethodDescriptor yX8_setRate.desc).map (fun d => d.parameters.length) = some 2 := ⟨by decide, by decide, by decide +kernel⟩
theorem wm_L_153 : (Cond.methodLink RL 153 yX8_setRate) ∈ gW := gW_of (tb_6 (List.mem_of_getElem? (i := 84) (by decide +kernel))) (by decide +kernel)
theorem wi_X8_setRate : (Cond.instanceMethod yX8_setRate) ∈ gW := gW_of (tb_6 (List.mem_of_getElem? (i := 85) (by decide +kernel))) (by decide +kernel)
theorem ws_X8_setRate : (Cond.selects yX8_setRate.cls yX8_setRate yX8_setRate) ∈ gW := gW_of (tb_6 (List.mem_of_getElem? (i := 86) (by decide +kernel))) (by decide +kernel)
theorem kL_153 : xVk RL 153 yX8_setRate cX8_setRate 3 (some .int) 2 8 := ⟨wm_L_153, wi_X8_setRate, ws_X8_setRate, wz_X8, wc_X8_setRate, pd_X8_setRate, TX8, 19, rfl⟩
theorem wc_L_setTier : (Cond.codeWith yL_setTier cL_setTier 5 (some .int) [(0, 10, 13, 20), (0, 10, 17, 13)]) ∈ gW := gW_of (tb_3 (List.mem_of_getElem? (i := 174) (by decide +kernel))) (by decide +kernel)
theorem pd_L_setTier : yL_setTier.cls ≠ "java/lang/invoke/MethodHandle" ∧ yL_setTier.cls ≠ "java/lang/invoke/VarHandle" ∧ (parseMethodDescriptor yL_setTier.desc).map (fun d => d.parameters.length) = some 4 := ⟨by decide, by decide, by decide +kernel⟩
theorem wm_L_154 : (Cond.methodLink RL 154 yL_setTier) ∈ gW := gW_of (tb_3 (List.mem_of_getElem? (i := 172) (by decide +kernel))) (by decide +kernel)
theorem wt_L_setTier : (Cond.static yL_setTier) ∈ gW := gW_of (tb_3 (List.mem_of_getElem? (i := 173) (by decide +kernel))) (by decide +kernel)
theorem kL_154 : xHk RL 154 yL_setTier cL_setTier 5 (some .int) [(0, 10, 13, 20), (0, 10, 17, 13)] 4 := ⟨wm_L_154, wt_L_setTier, wz_L, wc_L_setTier, pd_L_setTier⟩
theorem wc_X8_setTier : (Cond.code yX8_setTier cX8_setTier 3 (some .int)) ∈ gW := gW_of (tb_6 (List.mem_of_getElem? (i := 95) (by decide +kernel))) (by decide +kernel)
theorem pd_X8_setTier : yX8_setTier.cls ≠ "java/lang/invoke/MethodHandle" ∧ yX8_setTier.cls ≠ "java/lang/invoke/VarHandle" ∧ (parseMethodDescriptor yX8_setTier.desc).map (fun d => d.parameters.length) = some 2 := ⟨by decide, by decide, by decide +kernel⟩
theorem wm_L_156 : (Cond.methodLink RL 156 yX8_setTier) ∈ gW := gW_of (tb_6 (List.mem_of_getElem? (i := 92) (by decide +kernel))) (by decide +kernel)
theorem wi_X8_setTier : (Cond.instanceMethod yX8_setTier) ∈ gW := gW_of (tb_6 (List.mem_of_getElem? (i := 93) (by decide +kernel))) (by decide +kernel)
theorem ws_X8_setTier : (Cond.selects yX8_setTier.cls yX8_setTier yX8_setTier) ∈ gW := gW_of (tb_6 (List.mem_of_getElem? (i := 94) (by decide +kernel))) (by decide +kernel)
theorem kL_156 : xVk RL 156 yX8_setTier cX8_setTier 3 (some .int) 2 8 := ⟨wm_L_156, wi_X8_setTier, ws_X8_setTier, wz_X8, wc_X8_setTier, pd_X8_setTier, TX8, 19, rfl⟩
theorem wc_L_party : (Cond.codeWith yL_party cL_party 5 (some .int) [(0, 9, 12, 20), (0, 9, 16, 13)]) ∈ gW := gW_of (tb_3 (List.mem_of_getElem? (i := 181) (by decide +kernel))) (by decide +kernel)
theorem pd_L_party : yL_party.cls ≠ "java/lang/invoke/MethodHandle" ∧ yL_party.cls ≠ "java/lang/invoke/VarHandle" ∧ (parseMethodDescriptor yL_party.desc).map (fun d => d.parameters.length) = some 4 := ⟨by decide, by decide, by decide +kernel⟩
theorem wm_L_157 : (Cond.methodLink RL 157 yL_party) ∈ gW := gW_of (tb_3 (List.mem_of_getElem? (i := 179) (by decide +kernel))) (by decide +kernel)
theorem wt_L_party : (Cond.static yL_party) ∈ gW := gW_of (tb_3 (List.mem_of_getElem? (i := 180) (by decide +kernel))) (by decide +kernel)
theorem kL_157 : xHk RL 157 yL_party cL_party 5 (some .int) [(0, 9, 12, 20), (0, 9, 16, 13)] 4 := ⟨wm_L_157, wt_L_party, wz_L, wc_L_party, pd_L_party⟩
theorem wc_X8_party : (Cond.code yX8_party cX8_party 3 (some .long)) ∈ gW := gW_of (tb_6 (List.mem_of_getElem? (i := 99) (by decide +kernel))) (by decide +kernel)
theorem pd_X8_party : yX8_party.cls ≠ "java/lang/invoke/MethodHandle" ∧ yX8_party.cls ≠ "java/lang/invoke/VarHandle" ∧ (parseMethodDescriptor yX8_party.desc).map (fun d => d.parameters.length) = some 2 := ⟨by decide, by decide, by decide +kernel⟩
theorem wm_L_159 : (Cond.methodLink RL 159 yX8_party) ∈ gW := gW_of (tb_6 (List.mem_of_getElem? (i := 96) (by decide +kernel))) (by decide +kernel)
theorem wi_X8_party : (Cond.instanceMethod yX8_party) ∈ gW := gW_of (tb_6 (List.mem_of_getElem? (i := 97) (by decide +kernel))) (by decide +kernel)
theorem ws_X8_party : (Cond.selects yX8_party.cls yX8_party yX8_party) ∈ gW := gW_of (tb_6 (List.mem_of_getElem? (i := 98) (by decide +kernel))) (by decide +kernel)
theorem kL_159 : xVk RL 159 yX8_party cX8_party 3 (some .long) 2 8 := ⟨wm_L_159, wi_X8_party, ws_X8_party, wz_X8, wc_X8_party, pd_X8_party, TX8, 19, rfl⟩
theorem wc_L_claim : (Cond.codeWith yL_claim cL_claim 6 (some .int) [(0, 12, 15, 20), (0, 12, 19, 13), (0, 12, 23, 15)]) ∈ gW := gW_of (tb_3 (List.mem_of_getElem? (i := 219) (by decide +kernel))) (by decide +kernel)
theorem pd_L_claim : yL_claim.cls ≠ "java/lang/invoke/MethodHandle" ∧ yL_claim.cls ≠ "java/lang/invoke/VarHandle" ∧ (parseMethodDescriptor yL_claim.desc).map (fun d => d.parameters.length) = some 5 := ⟨by decide, by decide, by decide +kernel⟩
theorem wm_L_160 : (Cond.methodLink RL 160 yL_claim) ∈ gW := gW_of (tb_3 (List.mem_of_getElem? (i := 217) (by decide +kernel))) (by decide +kernel)
theorem wt_L_claim : (Cond.static yL_claim) ∈ gW := gW_of (tb_3 (List.mem_of_getElem? (i := 218) (by decide +kernel))) (by decide +kernel)
theorem kL_160 : xHk RL 160 yL_claim cL_claim 6 (some .int) [(0, 12, 15, 20), (0, 12, 19, 13), (0, 12, 23, 15)] 5 := ⟨wm_L_160, wt_L_claim, wz_L, wc_L_claim, pd_L_claim⟩
theorem wc_X8_claim : (Cond.code yX8_claim cX8_claim 4 (some .int)) ∈ gW := gW_of (tb_6 (List.mem_of_getElem? (i := 192) (by decide +kernel))) (by decide +kernel)
theorem pd_X8_claim : yX8_claim.cls ≠ "java/lang/invoke/MethodHandle" ∧ yX8_claim.cls ≠ "java/lang/invoke/VarHandle" ∧ (parseMethodDescriptor yX8_claim.desc).map (fun d => d.parameters.length) = some 3 := ⟨by decide, by decide, by decide +kernel⟩
theorem wm_L_163 : (Cond.methodLink RL 163 yX8_claim) ∈ gW := gW_of (tb_6 (List.mem_of_getElem? (i := 189) (by decide +kernel))) (by decide +kernel)
theorem wi_X8_claim : (Cond.instanceMethod yX8_claim) ∈ gW := gW_of (tb_6 (List.mem_of_getElem? (i := 190) (by decide +kernel))) (by decide +kernel)
theorem ws_X8_claim : (Cond.selects yX8_claim.cls yX8_claim yX8_claim) ∈ gW := gW_of (tb_6 (List.mem_of_getElem? (i := 191) (by decide +kernel))) (by decide +kernel)
theorem kL_163 : xVk RL 163 yX8_claim cX8_claim 4 (some .int) 3 8 := ⟨wm_L_163, wi_X8_claim, ws_X8_claim, wz_X8, wc_X8_claim, pd_X8_claim, TX8, 19, rfl⟩
theorem wc_L_award : (Cond.codeWith yL_award cL_award 5 (some .int) [(0, 10, 13, 20), (0, 10, 17, 13), (0, 10, 21, 36)]) ∈ gW := gW_of (tb_4 (List.mem_of_getElem? (i := 3) (by decide +kernel))) (by decide +kernel)
theorem pd_L_award : yL_award.cls ≠ "java/lang/invoke/MethodHandle" ∧ yL_award.cls ≠ "java/lang/invoke/VarHandle" ∧ (parseMethodDescriptor yL_award.desc).map (fun d => d.parameters.length) = some 4 := ⟨by decide, by decide, by decide +kernel⟩
theorem wm_L_164 : (Cond.methodLink RL 164 yL_award) ∈ gW := gW_of (tb_4 (List.mem_of_getElem? (i := 1) (by decide +kernel))) (by decide +kernel)
theorem wt_L_award : (Cond.static yL_award) ∈ gW := gW_of (tb_4 (List.mem_of_getElem? (i := 2) (by decide +kernel))) (by decide +kernel)
theorem kL_164 : xHk RL 164 yL_award cL_award 5 (some .int) [(0, 10, 13, 20), (0, 10, 17, 13), (0, 10, 21, 36)] 4 := ⟨wm_L_164, wt_L_award, wz_L, wc_L_award, pd_L_award⟩
theorem wc_X8_award : (Cond.code yX8_award cX8_award 3 (some .int)) ∈ gW := gW_of (tb_6 (List.mem_of_getElem? (i := 206) (by decide +kernel))) (by decide +kernel)
theorem pd_X8_award : yX8_award.cls ≠ "java/lang/invoke/MethodHandle" ∧ yX8_award.cls ≠ "java/lang/invoke/VarHandle" ∧ (parseMethodDescriptor yX8_award.desc).map (fun d => d.parameters.length) = some 2 := ⟨by decide, by decide, by decide +kernel⟩
theorem wm_L_166 : (Cond.methodLink RL 166 yX8_award) ∈ gW := gW_of (tb_6 (List.mem_of_getElem? (i := 203) (by decide +kernel))) (by decide +kernel)
theorem wi_X8_award : (Cond.instanceMethod yX8_award) ∈ gW := gW_of (tb_6 (List.mem_of_getElem? (i := 204) (by decide +kernel))) (by decide +kernel)
theorem ws_X8_award : (Cond.selects yX8_award.cls yX8_award yX8_award) ∈ gW := gW_of (tb_6 (List.mem_of_getElem? (i := 205) (by decide +kernel))) (by decide +kernel)
theorem kL_166 : xVk RL 166 yX8_award cX8_award 3 (some .int) 2 8 := ⟨wm_L_166, wi_X8_award, ws_X8_award, wz_X8, wc_X8_award, pd_X8_award, TX8, 19, rfl⟩
theorem wc_L_dismiss : (Cond.codeWith yL_dismiss cL_dismiss 5 (some .int) [(0, 10, 13, 20), (0, 10, 17, 13), (0, 10, 21, 36)]) ∈ gW := gW_of (tb_4 (List.mem_of_getElem? (i := 36) (by decide +kernel))) (by decide +kernel)
theorem pd_L_dismiss : yL_dismiss.cls ≠ "java/lang/invoke/MethodHandle" ∧ yL_dismiss.cls ≠ "java/lang/invoke/VarHandle" ∧ (parseMethodDescriptor yL_dismiss.desc).map (fun d => d.parameters.length) = some 4 := ⟨by decide, by decide, by decide +kernel⟩
theorem wm_L_167 : (Cond.methodLink RL 167 yL_dismiss) ∈ gW := gW_of (tb_4 (List.mem_of_getElem? (i := 34) (by decide +kernel))) (by decide +kernel)
theorem wt_L_dismiss : (Cond.static yL_dismiss) ∈ gW := gW_of (tb_4 (List.mem_of_getElem? (i := 35) (by decide +kernel))) (by decide +kernel)
theorem kL_167 : xHk RL 167 yL_dismiss cL_dismiss 5 (some .int) [(0, 10, 13, 20), (0, 10, 17, 13), (0, 10, 21, 36)] 4 := ⟨wm_L_167, wt_L_dismiss, wz_L, wc_L_dismiss, pd_L_dismiss⟩
theorem wc_X8_dismiss : (Cond.code yX8_dismiss cX8_dismiss 3 (some .int)) ∈ gW := gW_of (tb_6 (List.mem_of_getElem? (i := 238) (by decide +kernel))) (by decide +kernel)
theorem pd_X8_dismiss : yX8_dismiss.cls ≠ "java/lang/invoke/MethodHandle" ∧ yX8_dismiss.cls ≠ "java/lang/invoke/VarHandle" ∧ (parseMethodDescriptor yX8_dismiss.desc).map (fun d => d.parameters.length) = some 2 := ⟨by decide, by decide, by decide +kernel⟩
theorem wm_L_169 : (Cond.methodLink RL 169 yX8_dismiss) ∈ gW := gW_of (tb_6 (List.mem_of_getElem? (i := 235) (by decide +kernel))) (by decide +kernel)
theorem wi_X8_dismiss : (Cond.instanceMethod yX8_dismiss) ∈ gW := gW_of (tb_6 (List.mem_of_getElem? (i := 236) (by decide +kernel))) (by decide +kernel)
theorem ws_X8_dismiss : (Cond.selects yX8_dismiss.cls yX8_dismiss yX8_dismiss) ∈ gW := gW_of (tb_6 (List.mem_of_getElem? (i := 237) (by decide +kernel))) (by decide +kernel)
theorem kL_169 : xVk RL 169 yX8_dismiss cX8_dismiss 3 (some .int) 2 8 := ⟨wm_L_169, wi_X8_dismiss, ws_X8_dismiss, wz_X8, wc_X8_dismiss, pd_X8_dismiss, TX8, 19, rfl⟩
theorem wc_L_withdraw : (Cond.codeWith yL_withdraw cL_withdraw 5 (some .int) [(0, 10, 13, 20), (0, 10, 17, 13), (0, 10, 21, 36)]) ∈ gW := gW_of (tb_4 (List.mem_of_getElem? (i := 47) (by decide +kernel))) (by decide +kernel)
theorem pd_L_withdraw : yL_withdraw.cls ≠ "java/lang/invoke/MethodHandle" ∧ yL_withdraw.cls ≠ "java/lang/invoke/VarHandle" ∧ (parseMethodDescriptor yL_withdraw.desc).map (fun d => d.parameters.length) = some 4 := ⟨by decide, by decide, by decide +kernel⟩
theorem wm_L_170 : (Cond.methodLink RL 170 yL_withdraw) ∈ gW := gW_of (tb_4 (List.mem_of_getElem? (i := 45) (by decide +kernel))) (by decide +kernel)
theorem wt_L_withdraw : (Cond.static yL_withdraw) ∈ gW := gW_of (tb_4 (List.mem_of_getElem? (i := 46) (by decide +kernel))) (by decide +kernel)
theorem kL_170 : xHk RL 170 yL_withdraw cL_withdraw 5 (some .int) [(0, 10, 13, 20), (0, 10, 17, 13), (0, 10, 21, 36)] 4 := ⟨wm_L_170, wt_L_withdraw, wz_L, wc_L_withdraw, pd_L_withdraw⟩
theorem wc_X8_withdraw : (Cond.code yX8_withdraw cX8_withdraw 3 (some .int)) ∈ gW := gW_of (tb_7 (List.mem_of_getElem? (i := 2) (by decide +kernel))) (by decide +kernel)
theorem pd_X8_withdraw : yX8_withdraw.cls ≠ "java/lang/invoke/MethodHandle" ∧ yX8_withdraw.cls ≠ "java/lang/invoke/VarHandle" ∧ (parseMethodDescriptor yX8_withdraw.desc).map (fun d => d.parameters.length) = some 2 := ⟨by decide, by decide, by decide +kernel⟩
theorem wm_L_172 : (Cond.methodLink RL 172 yX8_withdraw) ∈ gW := gW_of (tb_6 (List.mem_of_getElem? (i := 239) (by decide +kernel))) (by decide +kernel)
theorem wi_X8_withdraw : (Cond.instanceMethod yX8_withdraw) ∈ gW := gW_of (tb_7 (List.mem_of_getElem? (i := 0) (by decide +kernel))) (by decide +kernel)
theorem ws_X8_withdraw : (Cond.selects yX8_withdraw.cls yX8_withdraw yX8_withdraw) ∈ gW := gW_of (tb_7 (List.mem_of_getElem? (i := 1) (by decide +kernel))) (by decide +kernel)
theorem kL_172 : xVk RL 172 yX8_withdraw cX8_withdraw 3 (some .int) 2 8 := ⟨wm_L_172, wi_X8_withdraw, ws_X8_withdraw, wz_X8, wc_X8_withdraw, pd_X8_withdraw, TX8, 19, rfl⟩
theorem wc_L_claimed : (Cond.codeWith yL_claimed cL_claimed 5 (some .int) [(0, 10, 13, 20), (0, 10, 17, 13)]) ∈ gW := gW_of (tb_4 (List.mem_of_getElem? (i := 62) (by decide +kernel))) (by decide +kernel)
theorem pd_L_claimed : yL_claimed.cls ≠ "java/lang/invoke/MethodHandle" ∧ yL_claimed.cls ≠ "java/lang/invoke/VarHandle" ∧ (parseMethodDescriptor yL_claimed.desc).map (fun d => d.parameters.length) = some 4 := ⟨by decide, by decide, by decide +kernel⟩
theorem wm_L_173 : (Cond.methodLink RL 173 yL_claimed) ∈ gW := gW_of (tb_4 (List.mem_of_getElem? (i := 60) (by decide +kernel))) (by decide +kernel)
theorem wt_L_claimed : (Cond.static yL_claimed) ∈ gW := gW_of (tb_4 (List.mem_of_getElem? (i := 61) (by decide +kernel))) (by decide +kernel)
theorem kL_173 : xHk RL 173 yL_claimed cL_claimed 5 (some .int) [(0, 10, 13, 20), (0, 10, 17, 13)] 4 := ⟨wm_L_173, wt_L_claimed, wz_L, wc_L_claimed, pd_L_claimed⟩
theorem wc_X8_claimed : (Cond.code yX8_claimed cX8_claimed 3 (some .int)) ∈ gW := gW_of (tb_7 (List.mem_of_getElem? (i := 6) (by decide +kernel))) (by decide +kernel)
theorem pd_X8_claimed : yX8_claimed.cls ≠ "java/lang/invoke/MethodHandle" ∧ yX8_claimed.cls ≠ "java/lang/invoke/VarHandle" ∧ (parseMethodDescriptor yX8_claimed.desc).map (fun d => d.parameters.length) = some 2 := ⟨by decide, by decide, by decide +kernel⟩
theorem wm_L_175 : (Cond.methodLink RL 175 yX8_claimed) ∈ gW := gW_of (tb_7 (List.mem_of_getElem? (i := 3) (by decide +kernel))) (by decide +kernel)
theorem wi_X8_claimed : (Cond.instanceMethod yX8_claimed) ∈ gW := gW_of (tb_7 (List.mem_of_getElem? (i := 4) (by decide +kernel))) (by decide +kernel)
theorem ws_X8_claimed : (Cond.selects yX8_claimed.cls yX8_claimed yX8_claimed) ∈ gW := gW_of (tb_7 (List.mem_of_getElem? (i := 5) (by decide +kernel))) (by decide +kernel)
theorem kL_175 : xVk RL 175 yX8_claimed cX8_claimed 3 (some .int) 2 8 := ⟨wm_L_175, wi_X8_claimed, ws_X8_claimed, wz_X8, wc_X8_claimed, pd_X8_claimed, TX8, 19, rfl⟩
theorem wc_L_reason : (Cond.codeWith yL_reason cL_reason 3 (some .int) [(0, 8, 11, 51)]) ∈ gW := gW_of (tb_4 (List.mem_of_getElem? (i := 75) (by decide +kernel))) (by decide +kernel)
theorem pd_L_reason : yL_reason.cls ≠ "java/lang/invoke/MethodHandle" ∧ yL_reason.cls ≠ "java/lang/invoke/VarHandle" ∧ (parseMethodDescriptor yL_reason.desc).map (fun d => d.parameters.length) = some 2 := ⟨by decide, by decide, by decide +kernel⟩
theorem wm_L_176 : (Cond.methodLink RL 176 yL_reason) ∈ gW := gW_of (tb_4 (List.mem_of_getElem? (i := 73) (by decide +kernel))) (by decide +kernel)
theorem wt_L_reason : (Cond.static yL_reason) ∈ gW := gW_of (tb_4 (List.mem_of_getElem? (i := 74) (by decide +kernel))) (by decide +kernel)
theorem kL_176 : xHk RL 176 yL_reason cL_reason 3 (some .int) [(0, 8, 11, 51)] 2 := ⟨wm_L_176, wt_L_reason, wz_L, wc_L_reason, pd_L_reason⟩
theorem wc_X8_reason : (Cond.code yX8_reason cX8_reason 1 (some .int)) ∈ gW := gW_of (tb_7 (List.mem_of_getElem? (i := 10) (by decide +kernel))) (by decide +kernel)
theorem pd_X8_reason : yX8_reason.cls ≠ "java/lang/invoke/MethodHandle" ∧ yX8_reason.cls ≠ "java/lang/invoke/VarHandle" ∧ (parseMethodDescriptor yX8_reason.desc).map (fun d => d.parameters.length) = some 0 := ⟨by decide, by decide, by decide +kernel⟩
theorem wm_L_179 : (Cond.methodLink RL 179 yX8_reason) ∈ gW := gW_of (tb_7 (List.mem_of_getElem? (i := 7) (by decide +kernel))) (by decide +kernel)
theorem wi_X8_reason : (Cond.instanceMethod yX8_reason) ∈ gW := gW_of (tb_7 (List.mem_of_getElem? (i := 8) (by decide +kernel))) (by decide +kernel)
theorem ws_X8_reason : (Cond.selects yX8_reason.cls yX8_reason yX8_reason) ∈ gW := gW_of (tb_7 (List.mem_of_getElem? (i := 9) (by decide +kernel))) (by decide +kernel)
theorem kL_179 : xVk RL 179 yX8_reason cX8_reason 1 (some .int) 0 8 := ⟨wm_L_179, wi_X8_reason, ws_X8_reason, wz_X8, wc_X8_reason, pd_X8_reason, TX8, 19, rfl⟩
theorem wc_X7_inDispute : (Cond.code yX7_inDispute cX7_inDispute 1 (some .long)) ∈ gW := gW_of (tb_2 (List.mem_of_getElem? (i := 69) (by decide +kernel))) (by decide +kernel)
theorem pd_X7_inDispute : yX7_inDispute.cls ≠ "java/lang/invoke/MethodHandle" ∧ yX7_inDispute.cls ≠ "java/lang/invoke/VarHandle" ∧ (parseMethodDescriptor yX7_inDispute.desc).map (fun d => d.parameters.length) = some 0 := ⟨by decide, by decide, by decide +kernel⟩
theorem wm_L_180 : (Cond.methodLink RL 180 yX7_inDispute) ∈ gW := gW_of (tb_2 (List.mem_of_getElem? (i := 66) (by decide +kernel))) (by decide +kernel)
theorem wi_X7_inDispute : (Cond.instanceMethod yX7_inDispute) ∈ gW := gW_of (tb_2 (List.mem_of_getElem? (i := 67) (by decide +kernel))) (by decide +kernel)
theorem ws_X7_inDispute : (Cond.selects yX7_inDispute.cls yX7_inDispute yX7_inDispute) ∈ gW := gW_of (tb_2 (List.mem_of_getElem? (i := 68) (by decide +kernel))) (by decide +kernel)
theorem kL_180 : xVk RL 180 yX7_inDispute cX7_inDispute 1 (some .long) 0 7 := ⟨wm_L_180, wi_X7_inDispute, ws_X7_inDispute, wz_X7, wc_X7_inDispute, pd_X7_inDispute, TX7, 10, rfl⟩
theorem wc_X8_inDispute : (Cond.code yX8_inDispute cX8_inDispute 1 (some .long)) ∈ gW := gW_of (tb_7 (List.mem_of_getElem? (i := 14) (by decide +kernel))) (by decide +kernel)
theorem pd_X8_inDispute : yX8_inDispute.cls ≠ "java/lang/invoke/MethodHandle" ∧ yX8_inDispute.cls ≠ "java/lang/invoke/VarHandle" ∧ (parseMethodDescriptor yX8_inDispute.desc).map (fun d => d.parameters.length) = some 0 := ⟨by decide, by decide, by decide +kernel⟩
theorem wm_L_183 : (Cond.methodLink RL 183 yX8_inDispute) ∈ gW := gW_of (tb_7 (List.mem_of_getElem? (i := 11) (by decide +kernel))) (by decide +kernel)
theorem wi_X8_inDispute : (Cond.instanceMethod yX8_inDispute) ∈ gW := gW_of (tb_7 (List.mem_of_getElem? (i := 12) (by decide +kernel))) (by decide +kernel)
theorem ws_X8_inDispute : (Cond.selects yX8_inDispute.cls yX8_inDispute yX8_inDispute) ∈ gW := gW_of (tb_7 (List.mem_of_getElem? (i := 13) (by decide +kernel))) (by decide +kernel)
theorem kL_183 : xVk RL 183 yX8_inDispute cX8_inDispute 1 (some .long) 0 8 := ⟨wm_L_183, wi_X8_inDispute, ws_X8_inDispute, wz_X8, wc_X8_inDispute, pd_X8_inDispute, TX8, 19, rfl⟩
theorem wc_L_fees : (Cond.codeWith yL_fees cL_fees 4 (some .int) [(0, 8, 11, 20)]) ∈ gW := gW_of (tb_4 (List.mem_of_getElem? (i := 98) (by decide +kernel))) (by decide +kernel)
theorem pd_L_fees : yL_fees.cls ≠ "java/lang/invoke/MethodHandle" ∧ yL_fees.cls ≠ "java/lang/invoke/VarHandle" ∧ (parseMethodDescriptor yL_fees.desc).map (fun d => d.parameters.length) = some 3 := ⟨by decide, by decide, by decide +kernel⟩
theorem wm_L_184 : (Cond.methodLink RL 184 yL_fees) ∈ gW := gW_of (tb_4 (List.mem_of_getElem? (i := 96) (by decide +kernel))) (by decide +kernel)
theorem wt_L_fees : (Cond.static yL_fees) ∈ gW := gW_of (tb_4 (List.mem_of_getElem? (i := 97) (by decide +kernel))) (by decide +kernel)
theorem kL_184 : xHk RL 184 yL_fees cL_fees 4 (some .int) [(0, 8, 11, 20)] 3 := ⟨wm_L_184, wt_L_fees, wz_L, wc_L_fees, pd_L_fees⟩
theorem wc_X8_fees : (Cond.code yX8_fees cX8_fees 2 (some .long)) ∈ gW := gW_of (tb_7 (List.mem_of_getElem? (i := 18) (by decide +kernel))) (by decide +kernel)
theorem pd_X8_fees : yX8_fees.cls ≠ "java/lang/invoke/MethodHandle" ∧ yX8_fees.cls ≠ "java/lang/invoke/VarHandle" ∧ (parseMethodDescriptor yX8_fees.desc).map (fun d => d.parameters.length) = some 1 := ⟨by decide, by decide, by decide +kernel⟩
theorem wm_L_187 : (Cond.methodLink RL 187 yX8_fees) ∈ gW := gW_of (tb_7 (List.mem_of_getElem? (i := 15) (by decide +kernel))) (by decide +kernel)
theorem wi_X8_fees : (Cond.instanceMethod yX8_fees) ∈ gW := gW_of (tb_7 (List.mem_of_getElem? (i := 16) (by decide +kernel))) (by decide +kernel)
theorem ws_X8_fees : (Cond.selects yX8_fees.cls yX8_fees yX8_fees) ∈ gW := gW_of (tb_7 (List.mem_of_getElem? (i := 17) (by decide +kernel))) (by decide +kernel)
theorem kL_187 : xVk RL 187 yX8_fees cX8_fees 2 (some .long) 1 8 := ⟨wm_L_187, wi_X8_fees, ws_X8_fees, wz_X8, wc_X8_fees, pd_X8_fees, TX8, 19, rfl⟩
theorem wc_L_wouldBe : (Cond.codeWith yL_wouldBe cL_wouldBe 4 (some .int) [(0, 8, 11, 13)]) ∈ gW := gW_of (tb_4 (List.mem_of_getElem? (i := 107) (by decide +kernel))) (by decide +kernel)
theorem pd_L_wouldBe : yL_wouldBe.cls ≠ "java/lang/invoke/MethodHandle" ∧ yL_wouldBe.cls ≠ "java/lang/invoke/VarHandle" ∧ (parseMethodDescriptor yL_wouldBe.desc).map (fun d => d.parameters.length) = some 3 := ⟨by decide, by decide, by decide +kernel⟩
theorem wm_L_188 : (Cond.methodLink RL 188 yL_wouldBe) ∈ gW := gW_of (tb_4 (List.mem_of_getElem? (i := 105) (by decide +kernel))) (by decide +kernel)
theorem wt_L_wouldBe : (Cond.static yL_wouldBe) ∈ gW := gW_of (tb_4 (List.mem_of_getElem? (i := 106) (by decide +kernel))) (by decide +kernel)
theorem kL_188 : xHk RL 188 yL_wouldBe cL_wouldBe 4 (some .int) [(0, 8, 11, 13)] 3 := ⟨wm_L_188, wt_L_wouldBe, wz_L, wc_L_wouldBe, pd_L_wouldBe⟩
theorem wc_X8_wouldBe : (Cond.code yX8_wouldBe cX8_wouldBe 2 (some .long)) ∈ gW := gW_of (tb_7 (List.mem_of_getElem? (i := 22) (by decide +kernel))) (by decide +kernel)
theorem pd_X8_wouldBe : yX8_wouldBe.cls ≠ "java/lang/invoke/MethodHandle" ∧ yX8_wouldBe.cls ≠ "java/lang/invoke/VarHandle" ∧ (parseMethodDescriptor yX8_wouldBe.desc).map (fun d => d.parameters.length) = some 1 := ⟨by decide, by decide, by decide +kernel⟩
theorem wm_L_190 : (Cond.methodLink RL 190 yX8_wouldBe) ∈ gW := gW_of (tb_7 (List.mem_of_getElem? (i := 19) (by decide +kernel))) (by decide +kernel)
theorem wi_X8_wouldBe : (Cond.instanceMethod yX8_wouldBe) ∈ gW := gW_of (tb_7 (List.mem_of_getElem? (i := 20) (by decide +kernel))) (by decide +kernel)
theorem ws_X8_wouldBe : (Cond.selects yX8_wouldBe.cls yX8_wouldBe yX8_wouldBe) ∈ gW := gW_of (tb_7 (List.mem_of_getElem? (i := 21) (by decide +kernel))) (by decide +kernel)
theorem kL_190 : xVk RL 190 yX8_wouldBe cX8_wouldBe 2 (some .long) 1 8 := ⟨wm_L_190, wi_X8_wouldBe, ws_X8_wouldBe, wz_X8, wc_X8_wouldBe, pd_X8_wouldBe, TX8, 19, rfl⟩
theorem wc_L_side : (Cond.codeWith yL_side cL_side 5 (some .int) [(0, 9, 12, 20), (0, 9, 16, 13)]) ∈ gW := gW_of (tb_4 (List.mem_of_getElem? (i := 116) (by decide +kernel))) (by decide +kernel)
theorem pd_L_side : yL_side.cls ≠ "java/lang/invoke/MethodHandle" ∧ yL_side.cls ≠ "java/lang/invoke/VarHandle" ∧ (parseMethodDescriptor yL_side.desc).map (fun d => d.parameters.length) = some 4 := ⟨by decide, by decide, by decide +kernel⟩
theorem wm_L_191 : (Cond.methodLink RL 191 yL_side) ∈ gW := gW_of (tb_4 (List.mem_of_getElem? (i := 114) (by decide +kernel))) (by decide +kernel)
theorem wt_L_side : (Cond.static yL_side) ∈ gW := gW_of (tb_4 (List.mem_of_getElem? (i := 115) (by decide +kernel))) (by decide +kernel)
theorem kL_191 : xHk RL 191 yL_side cL_side 5 (some .int) [(0, 9, 12, 20), (0, 9, 16, 13)] 4 := ⟨wm_L_191, wt_L_side, wz_L, wc_L_side, pd_L_side⟩
theorem wc_X8_side : (Cond.code yX8_side cX8_side 3 (some .long)) ∈ gW := gW_of (tb_7 (List.mem_of_getElem? (i := 27) (by decide +kernel))) (by decide +kernel)
theorem pd_X8_side : yX8_side.cls ≠ "java/lang/invoke/MethodHandle" ∧ yX8_side.cls ≠ "java/lang/invoke/VarHandle" ∧ (parseMethodDescriptor yX8_side.desc).map (fun d => d.parameters.length) = some 2 := ⟨by decide, by decide, by decide +kernel⟩
theorem wm_L_193 : (Cond.methodLink RL 193 yX8_side) ∈ gW := gW_of (tb_7 (List.mem_of_getElem? (i := 24) (by decide +kernel))) (by decide +kernel)
theorem wi_X8_side : (Cond.instanceMethod yX8_side) ∈ gW := gW_of (tb_7 (List.mem_of_getElem? (i := 25) (by decide +kernel))) (by decide +kernel)
theorem ws_X8_side : (Cond.selects yX8_side.cls yX8_side yX8_side) ∈ gW := gW_of (tb_7 (List.mem_of_getElem? (i := 26) (by decide +kernel))) (by decide +kernel)
theorem kL_193 : xVk RL 193 yX8_side cX8_side 3 (some .long) 2 8 := ⟨wm_L_193, wi_X8_side, ws_X8_side, wz_X8, wc_X8_side, pd_X8_side, TX8, 19, rfl⟩
theorem wc_L_call : (Cond.codeWith yL_call cL_call 4 (some .int) [(0, 8, 11, 13)]) ∈ gW := gW_of (tb_4 (List.mem_of_getElem? (i := 132) (by decide +kernel))) (by decide +kernel)
theorem pd_L_call : yL_call.cls ≠ "java/lang/invoke/MethodHandle" ∧ yL_call.cls ≠ "java/lang/invoke/VarHandle" ∧ (parseMethodDescriptor yL_call.desc).map (fun d => d.parameters.length) = some 3 := ⟨by decide, by decide, by decide +kernel⟩
theorem wm_L_194 : (Cond.methodLink RL 194 yL_call) ∈ gW := gW_of (tb_4 (List.mem_of_getElem? (i := 130) (by decide +kernel))) (by decide +kernel)
theorem wt_L_call : (Cond.static yL_call) ∈ gW := gW_of (tb_4 (List.mem_of_getElem? (i := 131) (by decide +kernel))) (by decide +kernel)
theorem kL_194 : xHk RL 194 yL_call cL_call 4 (some .int) [(0, 8, 11, 13)] 3 := ⟨wm_L_194, wt_L_call, wz_L, wc_L_call, pd_L_call⟩
theorem wc_X8_call : (Cond.code yX8_call cX8_call 9 (some .long)) ∈ gW := gW_of (tb_7 (List.mem_of_getElem? (i := 35) (by decide +kernel))) (by decide +kernel)
theorem pd_X8_call : yX8_call.cls ≠ "java/lang/invoke/MethodHandle" ∧ yX8_call.cls ≠ "java/lang/invoke/VarHandle" ∧ (parseMethodDescriptor yX8_call.desc).map (fun d => d.parameters.length) = some 1 := ⟨by decide, by decide, by decide +kernel⟩
theorem wm_L_196 : (Cond.methodLink RL 196 yX8_call) ∈ gW := gW_of (tb_7 (List.mem_of_getElem? (i := 32) (by decide +kernel))) (by decide +kernel)
theorem wi_X8_call : (Cond.instanceMethod yX8_call) ∈ gW := gW_of (tb_7 (List.mem_of_getElem? (i := 33) (by decide +kernel))) (by decide +kernel)
theorem ws_X8_call : (Cond.selects yX8_call.cls yX8_call yX8_call) ∈ gW := gW_of (tb_7 (List.mem_of_getElem? (i := 34) (by decide +kernel))) (by decide +kernel)
theorem kL_196 : xVk RL 196 yX8_call cX8_call 9 (some .long) 1 8 := ⟨wm_L_196, wi_X8_call, ws_X8_call, wz_X8, wc_X8_call, pd_X8_call, TX8, 19, rfl⟩
theorem wc_L_pay : (Cond.codeWith yL_pay cL_pay 5 (some .int) [(0, 9, 12, 20), (0, 9, 16, 13)]) ∈ gW := gW_of (tb_4 (List.mem_of_getElem? (i := 144) (by decide +kernel))) (by decide +kernel)
theorem pd_L_pay : yL_pay.cls ≠ "java/lang/invoke/MethodHandle" ∧ yL_pay.cls ≠ "java/lang/invoke/VarHandle" ∧ (parseMethodDescriptor yL_pay.desc).map (fun d => d.parameters.length) = some 4 := ⟨by decide, by decide, by decide +kernel⟩
theorem wm_L_197 : (Cond.methodLink RL 197 yL_pay) ∈ gW := gW_of (tb_4 (List.mem_of_getElem? (i := 142) (by decide +kernel))) (by decide +kernel)
theorem wt_L_pay : (Cond.static yL_pay) ∈ gW := gW_of (tb_4 (List.mem_of_getElem? (i := 143) (by decide +kernel))) (by decide +kernel)
theorem kL_197 : xHk RL 197 yL_pay cL_pay 5 (some .int) [(0, 9, 12, 20), (0, 9, 16, 13)] 4 := ⟨wm_L_197, wt_L_pay, wz_L, wc_L_pay, pd_L_pay⟩
theorem wc_X8_pay : (Cond.code yX8_pay cX8_pay 3 (some .long)) ∈ gW := gW_of (tb_7 (List.mem_of_getElem? (i := 39) (by decide +kernel))) (by decide +kernel)
theorem pd_X8_pay : yX8_pay.cls ≠ "java/lang/invoke/MethodHandle" ∧ yX8_pay.cls ≠ "java/lang/invoke/VarHandle" ∧ (parseMethodDescriptor yX8_pay.desc).map (fun d => d.parameters.length) = some 2 := ⟨by decide, by decide, by decide +kernel⟩
theorem wm_L_199 : (Cond.methodLink RL 199 yX8_pay) ∈ gW := gW_of (tb_7 (List.mem_of_getElem? (i := 36) (by decide +kernel))) (by decide +kernel)
theorem wi_X8_pay : (Cond.instanceMethod yX8_pay) ∈ gW := gW_of (tb_7 (List.mem_of_getElem? (i := 37) (by decide +kernel))) (by decide +kernel)
theorem ws_X8_pay : (Cond.selects yX8_pay.cls yX8_pay yX8_pay) ∈ gW := gW_of (tb_7 (List.mem_of_getElem? (i := 38) (by decide +kernel))) (by decide +kernel)
theorem kL_199 : xVk RL 199 yX8_pay cX8_pay 3 (some .long) 2 8 := ⟨wm_L_199, wi_X8_pay, ws_X8_pay, wz_X8, wc_X8_pay, pd_X8_pay, TX8, 19, rfl⟩
theorem wc_L_payFor : (Cond.codeWith yL_payFor cL_payFor 5 (some .int) [(0, 9, 12, 20), (0, 9, 16, 13), (0, 9, 20, 15)]) ∈ gW := gW_of (tb_4 (List.mem_of_getElem? (i := 161) (by decide +kernel))) (by decide +kernel)
theorem pd_L_payFor : yL_payFor.cls ≠ "java/lang/invoke/MethodHandle" ∧ yL_payFor.cls ≠ "java/lang/invoke/VarHandle" ∧ (parseMethodDescriptor yL_payFor.desc).map (fun d => d.parameters.length) = some 4 := ⟨by decide, by decide, by decide +kernel⟩
theorem wm_L_200 : (Cond.methodLink RL 200 yL_payFor) ∈ gW := gW_of (tb_4 (List.mem_of_getElem? (i := 159) (by decide +kernel))) (by decide +kernel)
theorem wt_L_payFor : (Cond.static yL_payFor) ∈ gW := gW_of (tb_4 (List.mem_of_getElem? (i := 160) (by decide +kernel))) (by decide +kernel)
theorem kL_200 : xHk RL 200 yL_payFor cL_payFor 5 (some .int) [(0, 9, 12, 20), (0, 9, 16, 13), (0, 9, 20, 15)] 4 := ⟨wm_L_200, wt_L_payFor, wz_L, wc_L_payFor, pd_L_payFor⟩
theorem wc_X8_payFor : (Cond.code yX8_payFor cX8_payFor 5 (some .long)) ∈ gW := gW_of (tb_7 (List.mem_of_getElem? (i := 47) (by decide +kernel))) (by decide +kernel)
theorem pd_X8_payFor : yX8_payFor.cls ≠ "java/lang/invoke/MethodHandle" ∧ yX8_payFor.cls ≠ "java/lang/invoke/VarHandle" ∧ (parseMethodDescriptor yX8_payFor.desc).map (fun d => d.parameters.length) = some 2 := ⟨by decide, by decide, by decide +kernel⟩
theorem wm_L_202 : (Cond.methodLink RL 202 yX8_payFor) ∈ gW := gW_of (tb_7 (List.mem_of_getElem? (i := 44) (by decide +kernel))) (by decide +kernel)
theorem wi_X8_payFor : (Cond.instanceMethod yX8_payFor) ∈ gW := gW_of (tb_7 (List.mem_of_getElem? (i := 45) (by decide +kernel))) (by decide +kernel)
theorem ws_X8_payFor : (Cond.selects yX8_payFor.cls yX8_payFor yX8_payFor) ∈ gW := gW_of (tb_7 (List.mem_of_getElem? (i := 46) (by decide +kernel))) (by decide +kernel)
theorem kL_202 : xVk RL 202 yX8_payFor cX8_payFor 5 (some .long) 2 8 := ⟨wm_L_202, wi_X8_payFor, ws_X8_payFor, wz_X8, wc_X8_payFor, pd_X8_payFor, TX8, 19, rfl⟩
theorem wc_X7_takeFees : (Cond.code yX7_takeFees cX7_takeFees 1 (some .long)) ∈ gW := gW_of (tb_2 (List.mem_of_getElem? (i := 77) (by decide +kernel))) (by decide +kernel)
theorem pd_X7_takeFees : yX7_takeFees.cls ≠ "java/lang/invoke/MethodHandle" ∧ yX7_takeFees.cls ≠ "java/lang/invoke/VarHandle" ∧ (parseMethodDescriptor yX7_takeFees.desc).map (fun d => d.parameters.length) = some 0 := ⟨by decide, by decide, by decide +kernel⟩
theorem wm_L_203 : (Cond.methodLink RL 203 yX7_takeFees) ∈ gW := gW_of (tb_2 (List.mem_of_getElem? (i := 74) (by decide +kernel))) (by decide +kernel)
theorem wi_X7_takeFees : (Cond.instanceMethod yX7_takeFees) ∈ gW := gW_of (tb_2 (List.mem_of_getElem? (i := 75) (by decide +kernel))) (by decide +kernel)
theorem ws_X7_takeFees : (Cond.selects yX7_takeFees.cls yX7_takeFees yX7_takeFees) ∈ gW := gW_of (tb_2 (List.mem_of_getElem? (i := 76) (by decide +kernel))) (by decide +kernel)
theorem kL_203 : xVk RL 203 yX7_takeFees cX7_takeFees 1 (some .long) 0 7 := ⟨wm_L_203, wi_X7_takeFees, ws_X7_takeFees, wz_X7, wc_X7_takeFees, pd_X7_takeFees, TX7, 10, rfl⟩
theorem wc_X8_takeFees : (Cond.code yX8_takeFees cX8_takeFees 6 (some .long)) ∈ gW := gW_of (tb_7 (List.mem_of_getElem? (i := 51) (by decide +kernel))) (by decide +kernel)
theorem pd_X8_takeFees : yX8_takeFees.cls ≠ "java/lang/invoke/MethodHandle" ∧ yX8_takeFees.cls ≠ "java/lang/invoke/VarHandle" ∧ (parseMethodDescriptor yX8_takeFees.desc).map (fun d => d.parameters.length) = some 0 := ⟨by decide, by decide, by decide +kernel⟩
theorem wm_L_206 : (Cond.methodLink RL 206 yX8_takeFees) ∈ gW := gW_of (tb_7 (List.mem_of_getElem? (i := 48) (by decide +kernel))) (by decide +kernel)
theorem wi_X8_takeFees : (Cond.instanceMethod yX8_takeFees) ∈ gW := gW_of (tb_7 (List.mem_of_getElem? (i := 49) (by decide +kernel))) (by decide +kernel)
theorem ws_X8_takeFees : (Cond.selects yX8_takeFees.cls yX8_takeFees yX8_takeFees) ∈ gW := gW_of (tb_7 (List.mem_of_getElem? (i := 50) (by decide +kernel))) (by decide +kernel)
theorem kL_206 : xVk RL 206 yX8_takeFees cX8_takeFees 6 (some .long) 0 8 := ⟨wm_L_206, wi_X8_takeFees, ws_X8_takeFees, wz_X8, wc_X8_takeFees, pd_X8_takeFees, TX8, 19, rfl⟩
theorem wc_L_giveBack : (Cond.codeWith yL_giveBack cL_giveBack 3 (some .int) [(0, 7, 10, 36)]) ∈ gW := gW_of (tb_4 (List.mem_of_getElem? (i := 178) (by decide +kernel))) (by decide +kernel)
theorem pd_L_giveBack : yL_giveBack.cls ≠ "java/lang/invoke/MethodHandle" ∧ yL_giveBack.cls ≠ "java/lang/invoke/VarHandle" ∧ (parseMethodDescriptor yL_giveBack.desc).map (fun d => d.parameters.length) = some 2 := ⟨by decide, by decide, by decide +kernel⟩
theorem wm_L_207 : (Cond.methodLink RL 207 yL_giveBack) ∈ gW := gW_of (tb_4 (List.mem_of_getElem? (i := 176) (by decide +kernel))) (by decide +kernel)
theorem wt_L_giveBack : (Cond.static yL_giveBack) ∈ gW := gW_of (tb_4 (List.mem_of_getElem? (i := 177) (by decide +kernel))) (by decide +kernel)
theorem kL_207 : xHk RL 207 yL_giveBack cL_giveBack 3 (some .int) [(0, 7, 10, 36)] 2 := ⟨wm_L_207, wt_L_giveBack, wz_L, wc_L_giveBack, pd_L_giveBack⟩
theorem wc_X8_giveBack : (Cond.code yX8_giveBack cX8_giveBack 8 (some .long)) ∈ gW := gW_of (tb_7 (List.mem_of_getElem? (i := 55) (by decide +kernel))) (by decide +kernel)
theorem pd_X8_giveBack : yX8_giveBack.cls ≠ "java/lang/invoke/MethodHandle" ∧ yX8_giveBack.cls ≠ "java/lang/invoke/VarHandle" ∧ (parseMethodDescriptor yX8_giveBack.desc).map (fun d => d.parameters.length) = some 0 := ⟨by decide, by decide, by decide +kernel⟩
theorem wm_L_209 : (Cond.methodLink RL 209 yX8_giveBack) ∈ gW := gW_of (tb_7 (List.mem_of_getElem? (i := 52) (by decide +kernel))) (by decide +kernel)
theorem wi_X8_giveBack : (Cond.instanceMethod yX8_giveBack) ∈ gW := gW_of (tb_7 (List.mem_of_getElem? (i := 53) (by decide +kernel))) (by decide +kernel)
theorem ws_X8_giveBack : (Cond.selects yX8_giveBack.cls yX8_giveBack yX8_giveBack) ∈ gW := gW_of (tb_7 (List.mem_of_getElem? (i := 54) (by decide +kernel))) (by decide +kernel)
theorem kL_209 : xVk RL 209 yX8_giveBack cX8_giveBack 8 (some .long) 0 8 := ⟨wm_L_209, wi_X8_giveBack, ws_X8_giveBack, wz_X8, wc_X8_giveBack, pd_X8_giveBack, TX8, 19, rfl⟩
theorem wc_L_owed : (Cond.codeWith yL_owed cL_owed 5 (some .int) [(0, 9, 12, 20)]) ∈ gW := gW_of (tb_4 (List.mem_of_getElem? (i := 190) (by decide +kernel))) (by decide +kernel)
theorem pd_L_owed : yL_owed.cls ≠ "java/lang/invoke/MethodHandle" ∧ yL_owed.cls ≠ "java/lang/invoke/VarHandle" ∧ (parseMethodDescriptor yL_owed.desc).map (fun d => d.parameters.length) = some 4 := ⟨by decide, by decide, by decide +kernel⟩
theorem wm_L_210 : (Cond.methodLink RL 210 yL_owed) ∈ gW := gW_of (tb_4 (List.mem_of_getElem? (i := 188) (by decide +kernel))) (by decide +kernel)
theorem wt_L_owed : (Cond.static yL_owed) ∈ gW := gW_of (tb_4 (List.mem_of_getElem? (i := 189) (by decide +kernel))) (by decide +kernel)
theorem kL_210 : xHk RL 210 yL_owed cL_owed 5 (some .int) [(0, 9, 12, 20)] 4 := ⟨wm_L_210, wt_L_owed, wz_L, wc_L_owed, pd_L_owed⟩
theorem wc_X8_owed : (Cond.code yX8_owed cX8_owed 3 (some .long)) ∈ gW := gW_of (tb_7 (List.mem_of_getElem? (i := 59) (by decide +kernel))) (by decide +kernel)
theorem pd_X8_owed : yX8_owed.cls ≠ "java/lang/invoke/MethodHandle" ∧ yX8_owed.cls ≠ "java/lang/invoke/VarHandle" ∧ (parseMethodDescriptor yX8_owed.desc).map (fun d => d.parameters.length) = some 2 := ⟨by decide, by decide, by decide +kernel⟩
theorem wm_L_212 : (Cond.methodLink RL 212 yX8_owed) ∈ gW := gW_of (tb_7 (List.mem_of_getElem? (i := 56) (by decide +kernel))) (by decide +kernel)
theorem wi_X8_owed : (Cond.instanceMethod yX8_owed) ∈ gW := gW_of (tb_7 (List.mem_of_getElem? (i := 57) (by decide +kernel))) (by decide +kernel)
theorem ws_X8_owed : (Cond.selects yX8_owed.cls yX8_owed yX8_owed) ∈ gW := gW_of (tb_7 (List.mem_of_getElem? (i := 58) (by decide +kernel))) (by decide +kernel)
theorem kL_212 : xVk RL 212 yX8_owed cX8_owed 3 (some .long) 2 8 := ⟨wm_L_212, wi_X8_owed, ws_X8_owed, wz_X8, wc_X8_owed, pd_X8_owed, TX8, 19, rfl⟩
theorem wc_L_debt : (Cond.codeWith yL_debt cL_debt 5 (some .int) [(0, 9, 12, 20), (0, 9, 16, 13)]) ∈ gW := gW_of (tb_4 (List.mem_of_getElem? (i := 199) (by decide +kernel))) (by decide +kernel)
theorem pd_L_debt : yL_debt.cls ≠ "java/lang/invoke/MethodHandle" ∧ yL_debt.cls ≠ "java/lang/invoke/VarHandle" ∧ (parseMethodDescriptor yL_debt.desc).map (fun d => d.parameters.length) = some 4 := ⟨by decide, by decide, by decide +kernel⟩
theorem wm_L_213 : (Cond.methodLink RL 213 yL_debt) ∈ gW := gW_of (tb_4 (List.mem_of_getElem? (i := 197) (by decide +kernel))) (by decide +kernel)
theorem wt_L_debt : (Cond.static yL_debt) ∈ gW := gW_of (tb_4 (List.mem_of_getElem? (i := 198) (by decide +kernel))) (by decide +kernel)
theorem kL_213 : xHk RL 213 yL_debt cL_debt 5 (some .int) [(0, 9, 12, 20), (0, 9, 16, 13)] 4 := ⟨wm_L_213, wt_L_debt, wz_L, wc_L_debt, pd_L_debt⟩
theorem wc_X8_debt : (Cond.code yX8_debt cX8_debt 3 (some .long)) ∈ gW := gW_of (tb_7 (List.mem_of_getElem? (i := 67) (by decide +kernel))) (by decide +kernel)
theorem pd_X8_debt : yX8_debt.cls ≠ "java/lang/invoke/MethodHandle" ∧ yX8_debt.cls ≠ "java/lang/invoke/VarHandle" ∧ (parseMethodDescriptor yX8_debt.desc).map (fun d => d.parameters.length) = some 2 := ⟨by decide, by decide, by decide +kernel⟩
theorem wm_L_215 : (Cond.methodLink RL 215 yX8_debt) ∈ gW := gW_of (tb_7 (List.mem_of_getElem? (i := 64) (by decide +kernel))) (by decide +kernel)
theorem wi_X8_debt : (Cond.instanceMethod yX8_debt) ∈ gW := gW_of (tb_7 (List.mem_of_getElem? (i := 65) (by decide +kernel))) (by decide +kernel)
theorem ws_X8_debt : (Cond.selects yX8_debt.cls yX8_debt yX8_debt) ∈ gW := gW_of (tb_7 (List.mem_of_getElem? (i := 66) (by decide +kernel))) (by decide +kernel)
theorem kL_215 : xVk RL 215 yX8_debt cX8_debt 3 (some .long) 2 8 := ⟨wm_L_215, wi_X8_debt, ws_X8_debt, wz_X8, wc_X8_debt, pd_X8_debt, TX8, 19, rfl⟩
theorem wc_L_settle : (Cond.codeWith yL_settle cL_settle 6 (some .int) [(0, 11, 14, 20), (0, 11, 18, 13), (0, 11, 22, 36)]) ∈ gW := gW_of (tb_4 (List.mem_of_getElem? (i := 214) (by decide +kernel))) (by decide +kernel)
theorem pd_L_settle : yL_settle.cls ≠ "java/lang/invoke/MethodHandle" ∧ yL_settle.cls ≠ "java/lang/invoke/VarHandle" ∧ (parseMethodDescriptor yL_settle.desc).map (fun d => d.parameters.length) = some 5 := ⟨by decide, by decide, by decide +kernel⟩
theorem wm_L_216 : (Cond.methodLink RL 216 yL_settle) ∈ gW := gW_of (tb_4 (List.mem_of_getElem? (i := 212) (by decide +kernel))) (by decide +kernel)
theorem wt_L_settle : (Cond.static yL_settle) ∈ gW := gW_of (tb_4 (List.mem_of_getElem? (i := 213) (by decide +kernel))) (by decide +kernel)
theorem kL_216 : xHk RL 216 yL_settle cL_settle 6 (some .int) [(0, 11, 14, 20), (0, 11, 18, 13), (0, 11, 22, 36)] 5 := ⟨wm_L_216, wt_L_settle, wz_L, wc_L_settle, pd_L_settle⟩
theorem wc_X8_settle : (Cond.code yX8_settle cX8_settle 4 (some .long)) ∈ gW := gW_of (tb_7 (List.mem_of_getElem? (i := 75) (by decide +kernel))) (by decide +kernel)
theorem pd_X8_settle : yX8_settle.cls ≠ "java/lang/invoke/MethodHandle" ∧ yX8_settle.cls ≠ "java/lang/invoke/VarHandle" ∧ (parseMethodDescriptor yX8_settle.desc).map (fun d => d.parameters.length) = some 3 := ⟨by decide, by decide, by decide +kernel⟩
theorem wm_L_218 : (Cond.methodLink RL 218 yX8_settle) ∈ gW := gW_of (tb_7 (List.mem_of_getElem? (i := 72) (by decide +kernel))) (by decide +kernel)
theorem wi_X8_settle : (Cond.instanceMethod yX8_settle) ∈ gW := gW_of (tb_7 (List.mem_of_getElem? (i := 73) (by decide +kernel))) (by decide +kernel)
theorem ws_X8_settle : (Cond.selects yX8_settle.cls yX8_settle yX8_settle) ∈ gW := gW_of (tb_7 (List.mem_of_getElem? (i := 74) (by decide +kernel))) (by decide +kernel)
theorem kL_218 : xVk RL 218 yX8_settle cX8_settle 4 (some .long) 3 8 := ⟨wm_L_218, wi_X8_settle, ws_X8_settle, wz_X8, wc_X8_settle, pd_X8_settle, TX8, 19, rfl⟩
theorem wc_L_offset : (Cond.codeWith yL_offset cL_offset 5 (some .int) [(0, 9, 12, 20), (0, 9, 16, 13), (0, 9, 20, 36)]) ∈ gW := gW_of (tb_4 (List.mem_of_getElem? (i := 229) (by decide +kernel))) (by decide +kernel)
theorem pd_L_offset : yL_offset.cls ≠ "java/lang/invoke/MethodHandle" ∧ yL_offset.cls ≠ "java/lang/invoke/VarHandle" ∧ (parseMethodDescriptor yL_offset.desc).map (fun d => d.parameters.length) = some 4 := ⟨by decide, by decide, by decide +kernel⟩
theorem wm_L_219 : (Cond.methodLink RL 219 yL_offset) ∈ gW := gW_of (tb_4 (List.mem_of_getElem? (i := 227) (by decide +kernel))) (by decide +kernel)
theorem wt_L_offset : (Cond.static yL_offset) ∈ gW := gW_of (tb_4 (List.mem_of_getElem? (i := 228) (by decide +kernel))) (by decide +kernel)
theorem kL_219 : xHk RL 219 yL_offset cL_offset 5 (some .int) [(0, 9, 12, 20), (0, 9, 16, 13), (0, 9, 20, 36)] 4 := ⟨wm_L_219, wt_L_offset, wz_L, wc_L_offset, pd_L_offset⟩
theorem wc_X8_offset : (Cond.code yX8_offset cX8_offset 5 (some .long)) ∈ gW := gW_of (tb_7 (List.mem_of_getElem? (i := 87) (by decide +kernel))) (by decide +kernel)
theorem pd_X8_offset : yX8_offset.cls ≠ "java/lang/invoke/MethodHandle" ∧ yX8_offset.cls ≠ "java/lang/invoke/VarHandle" ∧ (parseMethodDescriptor yX8_offset.desc).map (fun d => d.parameters.length) = some 2 := ⟨by decide, by decide, by decide +kernel⟩
theorem wm_L_221 : (Cond.methodLink RL 221 yX8_offset) ∈ gW := gW_of (tb_7 (List.mem_of_getElem? (i := 84) (by decide +kernel))) (by decide +kernel)
theorem wi_X8_offset : (Cond.instanceMethod yX8_offset) ∈ gW := gW_of (tb_7 (List.mem_of_getElem? (i := 85) (by decide +kernel))) (by decide +kernel)
theorem ws_X8_offset : (Cond.selects yX8_offset.cls yX8_offset yX8_offset) ∈ gW := gW_of (tb_7 (List.mem_of_getElem? (i := 86) (by decide +kernel))) (by decide +kernel)
theorem kL_221 : xVk RL 221 yX8_offset cX8_offset 5 (some .long) 2 8 := ⟨wm_L_221, wi_X8_offset, ws_X8_offset, wz_X8, wc_X8_offset, pd_X8_offset, TX8, 19, rfl⟩
theorem wc_L_ring : (Cond.codeWith yL_ring cL_ring 4 (some .int) [(0, 9, 12, 51)]) ∈ gW := gW_of (tb_5 (List.mem_of_getElem? (i := 4) (by decide +kernel))) (by decide +kernel)
theorem pd_L_ring : yL_ring.cls ≠ "java/lang/invoke/MethodHandle" ∧ yL_ring.cls ≠ "java/lang/invoke/VarHandle" ∧ (parseMethodDescriptor yL_ring.desc).map (fun d => d.parameters.length) = some 3 := ⟨by decide, by decide, by decide +kernel⟩
theorem wm_L_222 : (Cond.methodLink RL 222 yL_ring) ∈ gW := gW_of (tb_5 (List.mem_of_getElem? (i := 2) (by decide +kernel))) (by decide +kernel)
theorem wt_L_ring : (Cond.static yL_ring) ∈ gW := gW_of (tb_5 (List.mem_of_getElem? (i := 3) (by decide +kernel))) (by decide +kernel)
theorem kL_222 : xHk RL 222 yL_ring cL_ring 4 (some .int) [(0, 9, 12, 51)] 3 := ⟨wm_L_222, wt_L_ring, wz_L, wc_L_ring, pd_L_ring⟩
theorem wc_X8_ring : (Cond.code yX8_ring cX8_ring 3 (some .int)) ∈ gW := gW_of (tb_7 (List.mem_of_getElem? (i := 91) (by decide +kernel))) (by decide +kernel)
theorem pd_X8_ring : yX8_ring.cls ≠ "java/lang/invoke/MethodHandle" ∧ yX8_ring.cls ≠ "java/lang/invoke/VarHandle" ∧ (parseMethodDescriptor yX8_ring.desc).map (fun d => d.parameters.length) = some 1 := ⟨by decide, by decide, by decide +kernel⟩
theorem wm_L_224 : (Cond.methodLink RL 224 yX8_ring) ∈ gW := gW_of (tb_7 (List.mem_of_getElem? (i := 88) (by decide +kernel))) (by decide +kernel)
theorem wi_X8_ring : (Cond.instanceMethod yX8_ring) ∈ gW := gW_of (tb_7 (List.mem_of_getElem? (i := 89) (by decide +kernel))) (by decide +kernel)
theorem ws_X8_ring : (Cond.selects yX8_ring.cls yX8_ring yX8_ring) ∈ gW := gW_of (tb_7 (List.mem_of_getElem? (i := 90) (by decide +kernel))) (by decide +kernel)
theorem kL_224 : xVk RL 224 yX8_ring cX8_ring 3 (some .int) 1 8 := ⟨wm_L_224, wi_X8_ring, ws_X8_ring, wz_X8, wc_X8_ring, pd_X8_ring, TX8, 19, rfl⟩
theorem wc_X7_clearRings : (Cond.code yX7_clearRings cX7_clearRings 1 (some .long)) ∈ gW := gW_of (tb_2 (List.mem_of_getElem? (i := 177) (by decide +kernel))) (by decide +kernel)
theorem pd_X7_clearRings : yX7_clearRings.cls ≠ "java/lang/invoke/MethodHandle" ∧ yX7_clearRings.cls ≠ "java/lang/invoke/VarHandle" ∧ (parseMethodDescriptor yX7_clearRings.desc).map (fun d => d.parameters.length) = some 0 := ⟨by decide, by decide, by decide +kernel⟩
theorem wm_L_225 : (Cond.methodLink RL 225 yX7_clearRings) ∈ gW := gW_of (tb_2 (List.mem_of_getElem? (i := 174) (by decide +kernel))) (by decide +kernel)
theorem wi_X7_clearRings : (Cond.instanceMethod yX7_clearRings) ∈ gW := gW_of (tb_2 (List.mem_of_getElem? (i := 175) (by decide +kernel))) (by decide +kernel)
theorem ws_X7_clearRings : (Cond.selects yX7_clearRings.cls yX7_clearRings yX7_clearRings) ∈ gW := gW_of (tb_2 (List.mem_of_getElem? (i := 176) (by decide +kernel))) (by decide +kernel)
theorem kL_225 : xVk RL 225 yX7_clearRings cX7_clearRings 1 (some .long) 0 7 := ⟨wm_L_225, wi_X7_clearRings, ws_X7_clearRings, wz_X7, wc_X7_clearRings, pd_X7_clearRings, TX7, 10, rfl⟩
theorem wc_X8_clearRings : (Cond.code yX8_clearRings cX8_clearRings 7 (some .long)) ∈ gW := gW_of (tb_7 (List.mem_of_getElem? (i := 111) (by decide +kernel))) (by decide +kernel)
theorem pd_X8_clearRings : yX8_clearRings.cls ≠ "java/lang/invoke/MethodHandle" ∧ yX8_clearRings.cls ≠ "java/lang/invoke/VarHandle" ∧ (parseMethodDescriptor yX8_clearRings.desc).map (fun d => d.parameters.length) = some 0 := ⟨by decide, by decide, by decide +kernel⟩
theorem wm_L_228 : (Cond.methodLink RL 228 yX8_clearRings) ∈ gW := gW_of (tb_7 (List.mem_of_getElem? (i := 108) (by decide +kernel))) (by decide +kernel)
theorem wi_X8_clearRings : (Cond.instanceMethod yX8_clearRings) ∈ gW := gW_of (tb_7 (List.mem_of_getElem? (i := 109) (by decide +kernel))) (by decide +kernel)
theorem ws_X8_clearRings : (Cond.selects yX8_clearRings.cls yX8_clearRings yX8_clearRings) ∈ gW := gW_of (tb_7 (List.mem_of_getElem? (i := 110) (by decide +kernel))) (by decide +kernel)
theorem kL_228 : xVk RL 228 yX8_clearRings cX8_clearRings 7 (some .long) 0 8 := ⟨wm_L_228, wi_X8_clearRings, ws_X8_clearRings, wz_X8, wc_X8_clearRings, pd_X8_clearRings, TX8, 19, rfl⟩
theorem wc_L_net : (Cond.codeWith yL_net cL_net 4 (some .int) [(0, 8, 11, 20)]) ∈ gW := gW_of (tb_5 (List.mem_of_getElem? (i := 12) (by decide +kernel))) (by decide +kernel)
theorem pd_L_net : yL_net.cls ≠ "java/lang/invoke/MethodHandle" ∧ yL_net.cls ≠ "java/lang/invoke/VarHandle" ∧ (parseMethodDescriptor yL_net.desc).map (fun d => d.parameters.length) = some 3 := ⟨by decide, by decide, by decide +kernel⟩
theorem wm_L_229 : (Cond.methodLink RL 229 yL_net) ∈ gW := gW_of (tb_5 (List.mem_of_getElem? (i := 10) (by decide +kernel))) (by decide +kernel)
theorem wt_L_net : (Cond.static yL_net) ∈ gW := gW_of (tb_5 (List.mem_of_getElem? (i := 11) (by decide +kernel))) (by decide +kernel)
theorem kL_229 : xHk RL 229 yL_net cL_net 4 (some .int) [(0, 8, 11, 20)] 3 := ⟨wm_L_229, wt_L_net, wz_L, wc_L_net, pd_L_net⟩
theorem wc_X8_net : (Cond.code yX8_net cX8_net 2 (some .long)) ∈ gW := gW_of (tb_7 (List.mem_of_getElem? (i := 115) (by decide +kernel))) (by decide +kernel)
theorem pd_X8_net : yX8_net.cls ≠ "java/lang/invoke/MethodHandle" ∧ yX8_net.cls ≠ "java/lang/invoke/VarHandle" ∧ (parseMethodDescriptor yX8_net.desc).map (fun d => d.parameters.length) = some 1 := ⟨by decide, by decide, by decide +kernel⟩
theorem wm_L_231 : (Cond.methodLink RL 231 yX8_net) ∈ gW := gW_of (tb_7 (List.mem_of_getElem? (i := 112) (by decide +kernel))) (by decide +kernel)
theorem wi_X8_net : (Cond.instanceMethod yX8_net) ∈ gW := gW_of (tb_7 (List.mem_of_getElem? (i := 113) (by decide +kernel))) (by decide +kernel)
theorem ws_X8_net : (Cond.selects yX8_net.cls yX8_net yX8_net) ∈ gW := gW_of (tb_7 (List.mem_of_getElem? (i := 114) (by decide +kernel))) (by decide +kernel)
theorem kL_231 : xVk RL 231 yX8_net cX8_net 2 (some .long) 1 8 := ⟨wm_L_231, wi_X8_net, ws_X8_net, wz_X8, wc_X8_net, pd_X8_net, TX8, 19, rfl⟩
theorem wc_L_growsTo : (Cond.codeWith yL_growsTo cL_growsTo 5 (some .int) [(0, 10, 13, 20), (0, 10, 17, 13), (0, 10, 21, 51)]) ∈ gW := gW_of (tb_5 (List.mem_of_getElem? (i := 21) (by decide +kernel))) (by decide +kernel)
theorem pd_L_growsTo : yL_growsTo.cls ≠ "java/lang/invoke/MethodHandle" ∧ yL_growsTo.cls ≠ "java/lang/invoke/VarHandle" ∧ (parseMethodDescriptor yL_growsTo.desc).map (fun d => d.parameters.length) = some 4 := ⟨by decide, by decide, by decide +kernel⟩
theorem wm_L_232 : (Cond.methodLink RL 232 yL_growsTo) ∈ gW := gW_of (tb_5 (List.mem_of_getElem? (i := 19) (by decide +kernel))) (by decide +kernel)
theorem wt_L_growsTo : (Cond.static yL_growsTo) ∈ gW := gW_of (tb_5 (List.mem_of_getElem? (i := 20) (by decide +kernel))) (by decide +kernel)
theorem kL_232 : xHk RL 232 yL_growsTo cL_growsTo 5 (some .int) [(0, 10, 13, 20), (0, 10, 17, 13), (0, 10, 21, 51)] 4 := ⟨wm_L_232, wt_L_growsTo, wz_L, wc_L_growsTo, pd_L_growsTo⟩
theorem wc_X8_growsTo : (Cond.code yX8_growsTo cX8_growsTo 10 (some .int)) ∈ gW := gW_of (tb_7 (List.mem_of_getElem? (i := 119) (by decide +kernel))) (by decide +kernel)
theorem pd_X8_growsTo : yX8_growsTo.cls ≠ "java/lang/invoke/MethodHandle" ∧ yX8_growsTo.cls ≠ "java/lang/invoke/VarHandle" ∧ (parseMethodDescriptor yX8_growsTo.desc).map (fun d => d.parameters.length) = some 2 := ⟨by decide, by decide, by decide +kernel⟩
theorem wm_L_234 : (Cond.methodLink RL 234 yX8_growsTo) ∈ gW := gW_of (tb_7 (List.mem_of_getElem? (i := 116) (by decide +kernel))) (by decide +kernel)
theorem wi_X8_growsTo : (Cond.instanceMethod yX8_growsTo) ∈ gW := gW_of (tb_7 (List.mem_of_getElem? (i := 117) (by decide +kernel))) (by decide +kernel)
theorem ws_X8_growsTo : (Cond.selects yX8_growsTo.cls yX8_growsTo yX8_growsTo) ∈ gW := gW_of (tb_7 (List.mem_of_getElem? (i := 118) (by decide +kernel))) (by decide +kernel)
theorem kL_234 : xVk RL 234 yX8_growsTo cX8_growsTo 10 (some .int) 2 8 := ⟨wm_L_234, wi_X8_growsTo, ws_X8_growsTo, wz_X8, wc_X8_growsTo, pd_X8_growsTo, TX8, 19, rfl⟩
theorem wc_L_pass : (Cond.codeWith yL_pass cL_pass 4 (some .int) [(0, 8, 11, 13), (0, 8, 14, 15)]) ∈ gW := gW_of (tb_5 (List.mem_of_getElem? (i := 36) (by decide +kernel))) (by decide +kernel)
theorem pd_L_pass : yL_pass.cls ≠ "java/lang/invoke/MethodHandle" ∧ yL_pass.cls ≠ "java/lang/invoke/VarHandle" ∧ (parseMethodDescriptor yL_pass.desc).map (fun d => d.parameters.length) = some 3 := ⟨by decide, by decide, by decide +kernel⟩
theorem wm_L_235 : (Cond.methodLink RL 235 yL_pass) ∈ gW := gW_of (tb_5 (List.mem_of_getElem? (i := 34) (by decide +kernel))) (by decide +kernel)
theorem wt_L_pass : (Cond.static yL_pass) ∈ gW := gW_of (tb_5 (List.mem_of_getElem? (i := 35) (by decide +kernel))) (by decide +kernel)
theorem kL_235 : xHk RL 235 yL_pass cL_pass 4 (some .int) [(0, 8, 11, 13), (0, 8, 14, 15)] 3 := ⟨wm_L_235, wt_L_pass, wz_L, wc_L_pass, pd_L_pass⟩
theorem wc_X8_pass : (Cond.code yX8_pass cX8_pass 2 (some .long)) ∈ gW := gW_of (tb_7 (List.mem_of_getElem? (i := 125) (by decide +kernel))) (by decide +kernel)
theorem pd_X8_pass : yX8_pass.cls ≠ "java/lang/invoke/MethodHandle" ∧ yX8_pass.cls ≠ "java/lang/invoke/VarHandle" ∧ (parseMethodDescriptor yX8_pass.desc).map (fun d => d.parameters.length) = some 1 := ⟨by decide, by decide, by decide +kernel⟩
theorem wm_L_237 : (Cond.methodLink RL 237 yX8_pass) ∈ gW := gW_of (tb_7 (List.mem_of_getElem? (i := 122) (by decide +kernel))) (by decide +kernel)
theorem wi_X8_pass : (Cond.instanceMethod yX8_pass) ∈ gW := gW_of (tb_7 (List.mem_of_getElem? (i := 123) (by decide +kernel))) (by decide +kernel)
theorem ws_X8_pass : (Cond.selects yX8_pass.cls yX8_pass yX8_pass) ∈ gW := gW_of (tb_7 (List.mem_of_getElem? (i := 124) (by decide +kernel))) (by decide +kernel)
theorem kL_237 : xVk RL 237 yX8_pass cX8_pass 2 (some .long) 1 8 := ⟨wm_L_237, wi_X8_pass, ws_X8_pass, wz_X8, wc_X8_pass, pd_X8_pass, TX8, 19, rfl⟩
theorem wc_L_goOn : (Cond.codeWith yL_goOn cL_goOn 3 (some .int) [(0, 8, 11, 15)]) ∈ gW := gW_of (tb_5 (List.mem_of_getElem? (i := 56) (by decide +kernel))) (by decide +kernel)
theorem pd_L_goOn : yL_goOn.cls ≠ "java/lang/invoke/MethodHandle" ∧ yL_goOn.cls ≠ "java/lang/invoke/VarHandle" ∧ (parseMethodDescriptor yL_goOn.desc).map (fun d => d.parameters.length) = some 2 := ⟨by decide, by decide, by decide +kernel⟩
theorem wm_L_238 : (Cond.methodLink RL 238 yL_goOn) ∈ gW := gW_of (tb_5 (List.mem_of_getElem? (i := 54) (by decide +kernel))) (by decide +kernel)
theorem wt_L_goOn : (Cond.static yL_goOn) ∈ gW := gW_of (tb_5 (List.mem_of_getElem? (i := 55) (by decide +kernel))) (by decide +kernel)
theorem kL_238 : xHk RL 238 yL_goOn cL_goOn 3 (some .int) [(0, 8, 11, 15)] 2 := ⟨wm_L_238, wt_L_goOn, wz_L, wc_L_goOn, pd_L_goOn⟩
theorem wc_X8_goOn : (Cond.code yX8_goOn cX8_goOn 1 (some .int)) ∈ gW := gW_of (tb_7 (List.mem_of_getElem? (i := 138) (by decide +kernel))) (by decide +kernel)
theorem pd_X8_goOn : yX8_goOn.cls ≠ "java/lang/invoke/MethodHandle" ∧ yX8_goOn.cls ≠ "java/lang/invoke/VarHandle" ∧ (parseMethodDescriptor yX8_goOn.desc).map (fun d => d.parameters.length) = some 0 := ⟨by decide, by decide, by decide +kernel⟩
theorem wm_L_240 : (Cond.methodLink RL 240 yX8_goOn) ∈ gW := gW_of (tb_7 (List.mem_of_getElem? (i := 135) (by decide +kernel))) (by decide +kernel)
theorem wi_X8_goOn : (Cond.instanceMethod yX8_goOn) ∈ gW := gW_of (tb_7 (List.mem_of_getElem? (i := 136) (by decide +kernel))) (by decide +kernel)
theorem ws_X8_goOn : (Cond.selects yX8_goOn.cls yX8_goOn yX8_goOn) ∈ gW := gW_of (tb_7 (List.mem_of_getElem? (i := 137) (by decide +kernel))) (by decide +kernel)
theorem kL_240 : xVk RL 240 yX8_goOn cX8_goOn 1 (some .int) 0 8 := ⟨wm_L_240, wi_X8_goOn, ws_X8_goOn, wz_X8, wc_X8_goOn, pd_X8_goOn, TX8, 19, rfl⟩
theorem wc_L_account : (Cond.codeWith yL_account cL_account 4 (some .int) [(0, 8, 11, 13)]) ∈ gW := gW_of (tb_5 (List.mem_of_getElem? (i := 71) (by decide +kernel))) (by decide +kernel)
theorem pd_L_account : yL_account.cls ≠ "java/lang/invoke/MethodHandle" ∧ yL_account.cls ≠ "java/lang/invoke/VarHandle" ∧ (parseMethodDescriptor yL_account.desc).map (fun d => d.parameters.length) = some 3 := ⟨by decide, by decide, by decide +kernel⟩
theorem wm_L_241 : (Cond.methodLink RL 241 yL_account) ∈ gW := gW_of (tb_5 (List.mem_of_getElem? (i := 69) (by decide +kernel))) (by decide +kernel)
theorem wt_L_account : (Cond.static yL_account) ∈ gW := gW_of (tb_5 (List.mem_of_getElem? (i := 70) (by decide +kernel))) (by decide +kernel)
theorem kL_241 : xHk RL 241 yL_account cL_account 4 (some .int) [(0, 8, 11, 13)] 3 := ⟨wm_L_241, wt_L_account, wz_L, wc_L_account, pd_L_account⟩
theorem wc_X8_account : (Cond.code yX8_account cX8_account 2 (some .long)) ∈ gW := gW_of (tb_7 (List.mem_of_getElem? (i := 146) (by decide +kernel))) (by decide +kernel)
theorem pd_X8_account : yX8_account.cls ≠ "java/lang/invoke/MethodHandle" ∧ yX8_account.cls ≠ "java/lang/invoke/VarHandle" ∧ (parseMethodDescriptor yX8_account.desc).map (fun d => d.parameters.length) = some 1 := ⟨by decide, by decide, by decide +kernel⟩
theorem wm_L_243 : (Cond.methodLink RL 243 yX8_account) ∈ gW := gW_of (tb_7 (List.mem_of_getElem? (i := 143) (by decide +kernel))) (by decide +kernel)
theorem wi_X8_account : (Cond.instanceMethod yX8_account) ∈ gW := gW_of (tb_7 (List.mem_of_getElem? (i := 144) (by decide +kernel))) (by decide +kernel)
theorem ws_X8_account : (Cond.selects yX8_account.cls yX8_account yX8_account) ∈ gW := gW_of (tb_7 (List.mem_of_getElem? (i := 145) (by decide +kernel))) (by decide +kernel)
theorem kL_243 : xVk RL 243 yX8_account cX8_account 2 (some .long) 1 8 := ⟨wm_L_243, wi_X8_account, ws_X8_account, wz_X8, wc_X8_account, pd_X8_account, TX8, 19, rfl⟩
theorem wc_L_entry : (Cond.codeWith yL_entry cL_entry 5 (some .int) [(0, 9, 12, 51)]) ∈ gW := gW_of (tb_5 (List.mem_of_getElem? (i := 95) (by decide +kernel))) (by decide +kernel)
theorem pd_L_entry : yL_entry.cls ≠ "java/lang/invoke/MethodHandle" ∧ yL_entry.cls ≠ "java/lang/invoke/VarHandle" ∧ (parseMethodDescriptor yL_entry.desc).map (fun d => d.parameters.length) = some 4 := ⟨by decide, by decide, by decide +kernel⟩
theorem wm_L_244 : (Cond.methodLink RL 244 yL_entry) ∈ gW := gW_of (tb_5 (List.mem_of_getElem? (i := 93) (by decide +kernel))) (by decide +kernel)
theorem wt_L_entry : (Cond.static yL_entry) ∈ gW := gW_of (tb_5 (List.mem_of_getElem? (i := 94) (by decide +kernel))) (by decide +kernel)
theorem kL_244 : xHk RL 244 yL_entry cL_entry 5 (some .int) [(0, 9, 12, 51)] 4 := ⟨wm_L_244, wt_L_entry, wz_L, wc_L_entry, pd_L_entry⟩
theorem wc_X8_entry : (Cond.code yX8_entry cX8_entry 3 (some .long)) ∈ gW := gW_of (tb_7 (List.mem_of_getElem? (i := 162) (by decide +kernel))) (by decide +kernel)
theorem pd_X8_entry : yX8_entry.cls ≠ "java/lang/invoke/MethodHandle" ∧ yX8_entry.cls ≠ "java/lang/invoke/VarHandle" ∧ (parseMethodDescriptor yX8_entry.desc).map (fun d => d.parameters.length) = some 2 := ⟨by decide, by decide, by decide +kernel⟩
theorem wm_L_247 : (Cond.methodLink RL 247 yX8_entry) ∈ gW := gW_of (tb_7 (List.mem_of_getElem? (i := 159) (by decide +kernel))) (by decide +kernel)
theorem wi_X8_entry : (Cond.instanceMethod yX8_entry) ∈ gW := gW_of (tb_7 (List.mem_of_getElem? (i := 160) (by decide +kernel))) (by decide +kernel)
theorem ws_X8_entry : (Cond.selects yX8_entry.cls yX8_entry yX8_entry) ∈ gW := gW_of (tb_7 (List.mem_of_getElem? (i := 161) (by decide +kernel))) (by decide +kernel)
theorem kL_247 : xVk RL 247 yX8_entry cX8_entry 3 (some .long) 2 8 := ⟨wm_L_247, wi_X8_entry, ws_X8_entry, wz_X8, wc_X8_entry, pd_X8_entry, TX8, 19, rfl⟩
theorem wc_L_quota : (Cond.codeWith yL_quota cL_quota 4 (some .int) [(0, 8, 11, 20), (0, 8, 14, 116)]) ∈ gW := gW_of (tb_5 (List.mem_of_getElem? (i := 106) (by decide +kernel))) (by decide +kernel)
theorem pd_L_quota : yL_quota.cls ≠ "java/lang/invoke/MethodHandle" ∧ yL_quota.cls ≠ "java/lang/invoke/VarHandle" ∧ (parseMethodDescriptor yL_quota.desc).map (fun d => d.parameters.length) = some 3 := ⟨by decide, by decide, by decide +kernel⟩
theorem wm_L_248 : (Cond.methodLink RL 248 yL_quota) ∈ gW := gW_of (tb_5 (List.mem_of_getElem? (i := 104) (by decide +kernel))) (by decide +kernel)
theorem wt_L_quota : (Cond.static yL_quota) ∈ gW := gW_of (tb_5 (List.mem_of_getElem? (i := 105) (by decide +kernel))) (by decide +kernel)
theorem kL_248 : xHk RL 248 yL_quota cL_quota 4 (some .int) [(0, 8, 11, 20), (0, 8, 14, 116)] 3 := ⟨wm_L_248, wt_L_quota, wz_L, wc_L_quota, pd_L_quota⟩
theorem wc_X8_quota : (Cond.code yX8_quota cX8_quota 8 (some .double)) ∈ gW := gW_of (tb_7 (List.mem_of_getElem? (i := 166) (by decide +kernel))) (by decide +kernel)
theorem pd_X8_quota : yX8_quota.cls ≠ "java/lang/invoke/MethodHandle" ∧ yX8_quota.cls ≠ "java/lang/invoke/VarHandle" ∧ (parseMethodDescriptor yX8_quota.desc).map (fun d => d.parameters.length) = some 1 := ⟨by decide, by decide, by decide +kernel⟩
theorem wm_L_251 : (Cond.methodLink RL 251 yX8_quota) ∈ gW := gW_of (tb_7 (List.mem_of_getElem? (i := 163) (by decide +kernel))) (by decide +kernel)
theorem wi_X8_quota : (Cond.instanceMethod yX8_quota) ∈ gW := gW_of (tb_7 (List.mem_of_getElem? (i := 164) (by decide +kernel))) (by decide +kernel)
theorem ws_X8_quota : (Cond.selects yX8_quota.cls yX8_quota yX8_quota) ∈ gW := gW_of (tb_7 (List.mem_of_getElem? (i := 165) (by decide +kernel))) (by decide +kernel)
theorem kL_251 : xVk RL 251 yX8_quota cX8_quota 8 (some .double) 1 8 := ⟨wm_L_251, wi_X8_quota, ws_X8_quota, wz_X8, wc_X8_quota, pd_X8_quota, TX8, 19, rfl⟩
theorem wc_L_append : (Cond.codeWith yL_append cL_append 4 (some .int) [(0, 9, 12, 13), (0, 9, 15, 15)]) ∈ gW := gW_of (tb_5 (List.mem_of_getElem? (i := 140) (by decide +kernel))) (by decide +kernel)
theorem pd_L_append : yL_append.cls ≠ "java/lang/invoke/MethodHandle" ∧ yL_append.cls ≠ "java/lang/invoke/VarHandle" ∧ (parseMethodDescriptor yL_append.desc).map (fun d => d.parameters.length) = some 3 := ⟨by decide, by decide, by decide +kernel⟩
theorem wm_L_252 : (Cond.methodLink RL 252 yL_append) ∈ gW := gW_of (tb_5 (List.mem_of_getElem? (i := 138) (by decide +kernel))) (by decide +kernel)
theorem wt_L_append : (Cond.static yL_append) ∈ gW := gW_of (tb_5 (List.mem_of_getElem? (i := 139) (by decide +kernel))) (by decide +kernel)
theorem kL_252 : xHk RL 252 yL_append cL_append 4 (some .int) [(0, 9, 12, 13), (0, 9, 15, 15)] 3 := ⟨wm_L_252, wt_L_append, wz_L, wc_L_append, pd_L_append⟩
theorem wc_X8_append : (Cond.code yX8_append cX8_append 2 (some .int)) ∈ gW := gW_of (tb_7 (List.mem_of_getElem? (i := 170) (by decide +kernel))) (by decide +kernel)
theorem pd_X8_append : yX8_append.cls ≠ "java/lang/invoke/MethodHandle" ∧ yX8_append.cls ≠ "java/lang/invoke/VarHandle" ∧ (parseMethodDescriptor yX8_append.desc).map (fun d => d.parameters.length) = some 1 := ⟨by decide, by decide, by decide +kernel⟩
theorem wm_L_255 : (Cond.methodLink RL 255 yX8_append) ∈ gW := gW_of (tb_7 (List.mem_of_getElem? (i := 167) (by decide +kernel))) (by decide +kernel)
theorem wi_X8_append : (Cond.instanceMethod yX8_append) ∈ gW := gW_of (tb_7 (List.mem_of_getElem? (i := 168) (by decide +kernel))) (by decide +kernel)
theorem ws_X8_append : (Cond.selects yX8_append.cls yX8_append yX8_append) ∈ gW := gW_of (tb_7 (List.mem_of_getElem? (i := 169) (by decide +kernel))) (by decide +kernel)
theorem kL_255 : xVk RL 255 yX8_append cX8_append 2 (some .int) 1 8 := ⟨wm_L_255, wi_X8_append, ws_X8_append, wz_X8, wc_X8_append, pd_X8_append, TX8, 19, rfl⟩
theorem wc_L_read : (Cond.codeWith yL_read cL_read 3 (some .int) [(0, 8, 11, 13), (0, 8, 14, 15)]) ∈ gW := gW_of (tb_5 (List.mem_of_getElem? (i := 151) (by decide +kernel))) (by decide +kernel)
theorem pd_L_read : yL_read.cls ≠ "java/lang/invoke/MethodHandle" ∧ yL_read.cls ≠ "java/lang/invoke/VarHandle" ∧ (parseMethodDescriptor yL_read.desc).map (fun d => d.parameters.length) = some 2 := ⟨by decide, by decide, by decide +kernel⟩
theorem wm_L_256 : (Cond.methodLink RL 256 yL_read) ∈ gW := gW_of (tb_5 (List.mem_of_getElem? (i := 149) (by decide +kernel))) (by decide +kernel)
theorem wt_L_read : (Cond.static yL_read) ∈ gW := gW_of (tb_5 (List.mem_of_getElem? (i := 150) (by decide +kernel))) (by decide +kernel)
theorem kL_256 : xHk RL 256 yL_read cL_read 3 (some .int) [(0, 8, 11, 13), (0, 8, 14, 15)] 2 := ⟨wm_L_256, wt_L_read, wz_L, wc_L_read, pd_L_read⟩
theorem wc_X8_read : (Cond.code yX8_read cX8_read 3 (some .int)) ∈ gW := gW_of (tb_7 (List.mem_of_getElem? (i := 174) (by decide +kernel))) (by decide +kernel)
theorem pd_X8_read : yX8_read.cls ≠ "java/lang/invoke/MethodHandle" ∧ yX8_read.cls ≠ "java/lang/invoke/VarHandle" ∧ (parseMethodDescriptor yX8_read.desc).map (fun d => d.parameters.length) = some 0 := ⟨by decide, by decide, by decide +kernel⟩
theorem wm_L_258 : (Cond.methodLink RL 258 yX8_read) ∈ gW := gW_of (tb_7 (List.mem_of_getElem? (i := 171) (by decide +kernel))) (by decide +kernel)
theorem wi_X8_read : (Cond.instanceMethod yX8_read) ∈ gW := gW_of (tb_7 (List.mem_of_getElem? (i := 172) (by decide +kernel))) (by decide +kernel)
theorem ws_X8_read : (Cond.selects yX8_read.cls yX8_read yX8_read) ∈ gW := gW_of (tb_7 (List.mem_of_getElem? (i := 173) (by decide +kernel))) (by decide +kernel)
theorem kL_258 : xVk RL 258 yX8_read cX8_read 3 (some .int) 0 8 := ⟨wm_L_258, wi_X8_read, ws_X8_read, wz_X8, wc_X8_read, pd_X8_read, TX8, 19, rfl⟩
theorem wc_L_errorPosition : (Cond.codeWith yL_errorPosition cL_errorPosition 3 (some .int) [(0, 8, 11, 51)]) ∈ gW := gW_of (tb_5 (List.mem_of_getElem? (i := 199) (by decide +kernel))) (by decide +kernel)
theorem pd_L_errorPosition : yL_errorPosition.cls ≠ "java/lang/invoke/MethodHandle" ∧ yL_errorPosition.cls ≠ "java/lang/invoke/VarHandle" ∧ (parseMethodDescriptor yL_errorPosition.desc).map (fun d => d.parameters.length) = some 2 := ⟨by decide, by decide, by decide +kernel⟩
theorem wm_L_259 : (Cond.methodLink RL 259 yL_errorPosition) ∈ gW := gW_of (tb_5 (List.mem_of_getElem? (i := 197) (by decide +kernel))) (by decide +kernel)
theorem wt_L_errorPosition : (Cond.static yL_errorPosition) ∈ gW := gW_of (tb_5 (List.mem_of_getElem? (i := 198) (by decide +kernel))) (by decide +kernel)
theorem kL_259 : xHk RL 259 yL_errorPosition cL_errorPosition 3 (some .int) [(0, 8, 11, 51)] 2 := ⟨wm_L_259, wt_L_errorPosition, wz_L, wc_L_errorPosition, pd_L_errorPosition⟩
theorem wc_X8_errorPosition : (Cond.code yX8_errorPosition cX8_errorPosition 1 (some .int)) ∈ gW := gW_of (tb_7 (List.mem_of_getElem? (i := 202) (by decide +kernel))) (by decide +kernel)
theorem pd_X8_errorPosition : yX8_errorPosition.cls ≠ "java/lang/invoke/MethodHandle" ∧ yX8_errorPosition.cls ≠ "java/lang/invoke/VarHandle" ∧ (parseMethodDescriptor yX8_errorPosition.desc).map (fun d => d.parameters.length) = some 0 := ⟨by decide, by decide, by decide +kernel⟩
theorem wm_L_261 : (Cond.methodLink RL 261 yX8_errorPosition) ∈ gW := gW_of (tb_7 (List.mem_of_getElem? (i := 199) (by decide +kernel))) (by decide +kernel)
theorem wi_X8_errorPosition : (Cond.instanceMethod yX8_errorPosition) ∈ gW := gW_of (tb_7 (List.mem_of_getElem? (i := 200) (by decide +kernel))) (by decide +kernel)
theorem ws_X8_errorPosition : (Cond.selects yX8_errorPosition.cls yX8_errorPosition yX8_errorPosition) ∈ gW := gW_of (tb_7 (List.mem_of_getElem? (i := 201) (by decide +kernel))) (by decide +kernel)
theorem kL_261 : xVk RL 261 yX8_errorPosition cX8_errorPosition 1 (some .int) 0 8 := ⟨wm_L_261, wi_X8_errorPosition, ws_X8_errorPosition, wz_X8, wc_X8_errorPosition, pd_X8_errorPosition, TX8, 19, rfl⟩
theorem wc_L_undo : (Cond.codeWith yL_undo cL_undo 3 (some .int) [(0, 8, 11, 51)]) ∈ gW := gW_of (tb_5 (List.mem_of_getElem? (i := 206) (by decide +kernel))) (by decide +kernel)
theorem pd_L_undo : yL_undo.cls ≠ "java/lang/invoke/MethodHandle" ∧ yL_undo.cls ≠ "java/lang/invoke/VarHandle" ∧ (parseMethodDescriptor yL_undo.desc).map (fun d => d.parameters.length) = some 2 := ⟨by decide, by decide, by decide +kernel⟩
theorem wm_L_262 : (Cond.methodLink RL 262 yL_undo) ∈ gW := gW_of (tb_5 (List.mem_of_getElem? (i := 204) (by decide +kernel))) (by decide +kernel)
theorem wt_L_undo : (Cond.static yL_undo) ∈ gW := gW_of (tb_5 (List.mem_of_getElem? (i := 205) (by decide +kernel))) (by decide +kernel)
theorem kL_262 : xHk RL 262 yL_undo cL_undo 3 (some .int) [(0, 8, 11, 51)] 2 := ⟨wm_L_262, wt_L_undo, wz_L, wc_L_undo, pd_L_undo⟩
theorem wc_X8_undo : (Cond.code yX8_undo cX8_undo 2 (some .int)) ∈ gW := gW_of (tb_7 (List.mem_of_getElem? (i := 206) (by decide +kernel))) (by decide +kernel)
theorem pd_X8_undo : yX8_undo.cls ≠ "java/lang/invoke/MethodHandle" ∧ yX8_undo.cls ≠ "java/lang/invoke/VarHandle" ∧ (parseMethodDescriptor yX8_undo.desc).map (fun d => d.parameters.length) = some 0 := ⟨by decide, by decide, by decide +kernel⟩
theorem wm_L_264 : (Cond.methodLink RL 264 yX8_undo) ∈ gW := gW_of (tb_7 (List.mem_of_getElem? (i := 203) (by decide +kernel))) (by decide +kernel)
theorem wi_X8_undo : (Cond.instanceMethod yX8_undo) ∈ gW := gW_of (tb_7 (List.mem_of_getElem? (i := 204) (by decide +kernel))) (by decide +kernel)
theorem ws_X8_undo : (Cond.selects yX8_undo.cls yX8_undo yX8_undo) ∈ gW := gW_of (tb_7 (List.mem_of_getElem? (i := 205) (by decide +kernel))) (by decide +kernel)
theorem kL_264 : xVk RL 264 yX8_undo cX8_undo 2 (some .int) 0 8 := ⟨wm_L_264, wi_X8_undo, ws_X8_undo, wz_X8, wc_X8_undo, pd_X8_undo, TX8, 19, rfl⟩
theorem wc_X7_save : (Cond.code yX7_save cX7_save 1 (some .int)) ∈ gW := gW_of (tb_2 (List.mem_of_getElem? (i := 228) (by decide +kernel))) (by decide +kernel)
theorem pd_X7_save : yX7_save.cls ≠ "java/lang/invoke/MethodHandle" ∧ yX7_save.cls ≠ "java/lang/invoke/VarHandle" ∧ (parseMethodDescriptor yX7_save.desc).map (fun d => d.parameters.length) = some 0 := ⟨by decide, by decide, by decide +kernel⟩
theorem wm_L_265 : (Cond.methodLink RL 265 yX7_save) ∈ gW := gW_of (tb_2 (List.mem_of_getElem? (i := 225) (by decide +kernel))) (by decide +kernel)
theorem wi_X7_save : (Cond.instanceMethod yX7_save) ∈ gW := gW_of (tb_2 (List.mem_of_getElem? (i := 226) (by decide +kernel))) (by decide +kernel)
theorem ws_X7_save : (Cond.selects yX7_save.cls yX7_save yX7_save) ∈ gW := gW_of (tb_2 (List.mem_of_getElem? (i := 227) (by decide +kernel))) (by decide +kernel)
theorem kL_265 : xVk RL 265 yX7_save cX7_save 1 (some .int) 0 7 := ⟨wm_L_265, wi_X7_save, ws_X7_save, wz_X7, wc_X7_save, pd_X7_save, TX7, 10, rfl⟩
theorem wc_X8_save : (Cond.code yX8_save cX8_save 2 (some .int)) ∈ gW := gW_of (tb_7 (List.mem_of_getElem? (i := 210) (by decide +kernel))) (by decide +kernel)
theorem pd_X8_save : yX8_save.cls ≠ "java/lang/invoke/MethodHandle" ∧ yX8_save.cls ≠ "java/lang/invoke/VarHandle" ∧ (parseMethodDescriptor yX8_save.desc).map (fun d => d.parameters.length) = some 0 := ⟨by decide, by decide, by decide +kernel⟩
theorem wm_L_268 : (Cond.methodLink RL 268 yX8_save) ∈ gW := gW_of (tb_7 (List.mem_of_getElem? (i := 207) (by decide +kernel))) (by decide +kernel)
theorem wi_X8_save : (Cond.instanceMethod yX8_save) ∈ gW := gW_of (tb_7 (List.mem_of_getElem? (i := 208) (by decide +kernel))) (by decide +kernel)
theorem ws_X8_save : (Cond.selects yX8_save.cls yX8_save yX8_save) ∈ gW := gW_of (tb_7 (List.mem_of_getElem? (i := 209) (by decide +kernel))) (by decide +kernel)
theorem kL_268 : xVk RL 268 yX8_save cX8_save 2 (some .int) 0 8 := ⟨wm_L_268, wi_X8_save, ws_X8_save, wz_X8, wc_X8_save, pd_X8_save, TX8, 19, rfl⟩
theorem wc_L_restore : (Cond.codeWith yL_restore cL_restore 3 (some .int) [(0, 8, 11, 15)]) ∈ gW := gW_of (tb_5 (List.mem_of_getElem? (i := 213) (by decide +kernel))) (by decide +kernel)
theorem pd_L_restore : yL_restore.cls ≠ "java/lang/invoke/MethodHandle" ∧ yL_restore.cls ≠ "java/lang/invoke/VarHandle" ∧ (parseMethodDescriptor yL_restore.desc).map (fun d => d.parameters.length) = some 2 := ⟨by decide, by decide, by decide +kernel⟩
theorem wm_L_269 : (Cond.methodLink RL 269 yL_restore) ∈ gW := gW_of (tb_5 (List.mem_of_getElem? (i := 211) (by decide +kernel))) (by decide +kernel)
theorem wt_L_restore : (Cond.static yL_restore) ∈ gW := gW_of (tb_5 (List.mem_of_getElem? (i := 212) (by decide +kernel))) (by decide +kernel)
theorem kL_269 : xHk RL 269 yL_restore cL_restore 3 (some .int) [(0, 8, 11, 15)] 2 := ⟨wm_L_269, wt_L_restore, wz_L, wc_L_restore, pd_L_restore⟩
theorem wc_X8_restore : (Cond.code yX8_restore cX8_restore 2 (some .int)) ∈ gW := gW_of (tb_7 (List.mem_of_getElem? (i := 214) (by decide +kernel))) (by decide +kernel)
theorem pd_X8_restore : yX8_restore.cls ≠ "java/lang/invoke/MethodHandle" ∧ yX8_restore.cls ≠ "java/lang/invoke/VarHandle" ∧ (parseMethodDescriptor yX8_restore.desc).map (fun d => d.parameters.length) = some 0 := ⟨by decide, by decide, by decide +kernel⟩
theorem wm_L_271 : (Cond.methodLink RL 271 yX8_restore) ∈ gW := gW_of (tb_7 (List.mem_of_getElem? (i := 211) (by decide +kernel))) (by decide +kernel)
theorem wi_X8_restore : (Cond.instanceMethod yX8_restore) ∈ gW := gW_of (tb_7 (List.mem_of_getElem? (i := 212) (by decide +kernel))) (by decide +kernel)
theorem ws_X8_restore : (Cond.selects yX8_restore.cls yX8_restore yX8_restore) ∈ gW := gW_of (tb_7 (List.mem_of_getElem? (i := 213) (by decide +kernel))) (by decide +kernel)
theorem kL_271 : xVk RL 271 yX8_restore cX8_restore 2 (some .int) 0 8 := ⟨wm_L_271, wi_X8_restore, ws_X8_restore, wz_X8, wc_X8_restore, pd_X8_restore, TX8, 19, rfl⟩
