def f_X7_clear (uP : sPar) (uC : sCla) (uD : sDeb) (uJ : sJou) (ur : xF32) (ut : xF32) (ud : Int32) (ug : Int32) (uM2 : Int32) : Option (Int32 × sPar × sCla × sDeb × sJou × xF32 × xF32 × Int32 × Int32 × Int32) :=
  xb8 (f_X0_reset uP uC uD uJ ur ut ud ug) fun uP_1 uC_2 uD_3 uJ_4 ur_5 ut_6 ud_7 ug_8 => (some (uP.1, uP_1, uC_2, uD_3, uJ_4, ur_5, ut_6, ud_7, ug_8, 0))
set_option maxHeartbeats 4000000 in
set_option maxRecDepth 100000 in
theorem m_X7_clear {l : Launch} {κ : xKt} {wZ : sRef × sOut}  {uA : Nat → sAcc} {uP : sPar} {uC : sCla} {uD : sDeb} {uJ : sJou} {ur : xF32} {ut : xF32} {ud : Int32} {ug : Int32} {uT0 : Int32} {uT1 : xF32} {uT2 : Int32} {uT3 : Int32} {uT4 : Int32} {uT5 : xF32} {uT6 : xF32} {uT7 : xF32} {uT8 : xF32} {uG0 : Int32} {uG1 : xF32} {uG2 : xF32} {uM0 : Int32} {uM1 : Int32} {uM2 : Int32} {uM3 : Int32} {uM4 : Int32} {rr : Int32} {yP : sPar} {yC : sCla} {yD : sDeb} {yJ : sJou} {yr : xF32} {yt : xF32} {yd : Int32} {yg : Int32} {yM2 : Int32} (hf : f_X7_clear uP uC uD uJ ur ut ud ug uM2 = some (rr, yP, yC, yD, yJ, yr, yt, yd, yg, yM2)) : xMi l κ yX7_clear cX7_clear 2 (some .int) (xR 1 0 0) [.ref (xAd κ 234)] (upA uA 0 (uP, uC, uD, uJ, ur, ut, ud, ug), (uT0, uT1, uT2, uT3, uT4, uT5, uT6, uT7, uT8), (uG0, uG1, uG2), (uM0, uM1, uM2, uM3, uM4), wZ) (upA uA 0 (yP, yC, yD, yJ, yr, yt, yd, yg), (uT0, uT1, uT2, uT3, uT4, uT5, uT6, uT7, uT8), (uG0, uG1, uG2), (uM0, uM1, yM2, uM3, uM4), wZ) rr := by
  unfold f_X7_clear at hf
  refine xMi_of pn_X7 (Nat.le_of_ble_eq_true rfl) ⟨rfl, rfl⟩ ?_
  intro A p e s m args below meth c ls Q hc hw hl K
  have hc : xC κ A p s m args meth c cX7_clear RX7 2 (some .int) := hc
  have hx := hc.1.1
  have hb := hc.1.2.1
  have hl : lv_has ls 2 [(0, .ref (xAd κ 234))] := hl
  refine lv_aload_n hx hb dX7_clear_0 rfl (lv_at hl 0 rfl) ?_
  refine x_get (v := .ref (xAd κ (26 * 0))) hc hw co_234 fX7_10 rfl dX7_clear_1 ?_
  refine x_get (v := .ref (xAd κ (26 * 0 + 1))) hc hw (ca_0 z9) fX7_54 rfl dX7_clear_4 ?_
  refine x_get (v := .int uP.1) hc hw (ca_1 z9) fX7_58 rfl dX7_clear_7 ?_
  refine lv_istore_n (lv' := [(1, .int uP.1), (0, .ref (xAd κ 234))]) hx hb dX7_clear_10 rfl hl (by decide) rfl (fun ls hl => ?_)
  refine lv_aload_n hx hb dX7_clear_11 rfl (lv_at hl 1 rfl) ?_
  refine x_get (v := .ref (xAd κ (26 * 0))) hc hw co_234 fX7_10 rfl dX7_clear_12 ?_
  obtain ⟨uP_1, uC_2, uD_3, uJ_4, ur_5, ut_6, ud_7, ug_8, h9, hf⟩ := xb8_of hf
  refine x_callvV (As := []) (rest := []) (σ' := (upA uA 0 (uP_1, uC_2, uD_3, uJ_4, ur_5, ut_6, ud_7, ug_8), (uT0, uT1, uT2, uT3, uT4, uT5, uT6, uT7, uT8), (uG0, uG1, uG2), (uM0, uM1, uM2, uM3, uM4), wZ)) hc hw hl.1 (m_X0_reset z9 h9) kX7_63 (ca_0 z9) rfl rfl ⟨rfl, rfl⟩ ⟨Nat.le_of_ble_eq_true rfl, Nat.le_of_ble_eq_true rfl⟩ ⟨Nat.zero_le _, Nat.zero_le _⟩ (Nat.le_of_ble_eq_true rfl) dX7_clear_15 (fun H locs hw => ?_)
  refine lv_aload_n hx hb dX7_clear_18 rfl (lv_at hl 1 rfl) ?_
  refine lv_iconst (v := 0) hx hb dX7_clear_19 (by decide) ?_
  refine x_put (σ' := (upA uA 0 (uP_1, uC_2, uD_3, uJ_4, ur_5, ut_6, ud_7, ug_8), (uT0, uT1, uT2, uT3, uT4, uT5, uT6, uT7, uT8), (uG0, uG1, uG2), (uM0, uM1, 0, uM3, uM4), wZ)) hc hw co_234 fX7_45 rfl rfl (Nat.le_of_ble_eq_true rfl) so_M_2 dX7_clear_20 (fun H locs hw => ?_)
  refine lv_iload_n hx hb dX7_clear_23 rfl (lv_at hl 0 rfl) ?_
  cases hf
  exact K _ _ _ _ dX7_clear_24 rfl hw
def f_X7_keepRow (uM1 : Int32) (uM2 : Int32) : Option (Int32 × Int32) :=
  if 6 ≤ uM1 then (some (0, (xminI (uM2 + 1) 6))) else (some ((uM1 + 1), (xminI (uM2 + 1) 6)))
set_option maxHeartbeats 4000000 in
set_option maxRecDepth 100000 in
theorem m_X7_keepRow {l : Launch} {κ : xKt} {wZ : sRef × sOut}  {uA : Nat → sAcc} {uP : sPar} {uC : sCla} {uD : sDeb} {uJ : sJou} {ur : xF32} {ut : xF32} {ud : Int32} {ug : Int32} {uT0 : Int32} {uT1 : xF32} {uT2 : Int32} {uT3 : Int32} {uT4 : Int32} {uT5 : xF32} {uT6 : xF32} {uT7 : xF32} {uT8 : xF32} {uG0 : Int32} {uG1 : xF32} {uG2 : xF32} {uM0 : Int32} {uM1 : Int32} {uM2 : Int32} {uM3 : Int32} {uM4 : Int32} {yM1 : Int32} {yM2 : Int32} (hf : f_X7_keepRow uM1 uM2 = some (yM1, yM2)) : xMv l κ yX7_keepRow cX7_keepRow 1 none (xR 0 0 0) [.ref (xAd κ 234)] (upA uA 0 (uP, uC, uD, uJ, ur, ut, ud, ug), (uT0, uT1, uT2, uT3, uT4, uT5, uT6, uT7, uT8), (uG0, uG1, uG2), (uM0, uM1, uM2, uM3, uM4), wZ) (upA uA 0 (uP, uC, uD, uJ, ur, ut, ud, ug), (uT0, uT1, uT2, uT3, uT4, uT5, uT6, uT7, uT8), (uG0, uG1, uG2), (uM0, yM1, yM2, uM3, uM4), wZ) := by
  unfold f_X7_keepRow at hf
  refine xMv_of pn_X7 (Nat.le_of_ble_eq_true rfl) ⟨rfl, rfl⟩ ?_
  intro A p e s m args below meth c ls Q hc hw hl K
  have hc : xC κ A p s m args meth c cX7_keepRow RX7 1 none := hc
  have hx := hc.1.1
  have hb := hc.1.2.1
  have hl : lv_has ls 1 [(0, .ref (xAd κ 234))] := hl
  refine lv_aload_n hx hb dX7_keepRow_0 rfl (lv_at hl 0 rfl) ?_
  refine lv_aload_n hx hb dX7_keepRow_1 rfl (lv_at hl 0 rfl) ?_
  refine x_get (v := .int uM1) hc hw co_234 fX7_41 rfl dX7_keepRow_2 ?_
  refine lv_bipush (v := 6) hx hb dX7_keepRow_5 (by decide) ?_
  refine lv_icmp_ge (tgt := 19) hx hb dX7_keepRow_7 (by decide) (fun c1 => ?_) (fun c1 => ?_)
  · have hf := xif_t c1 hf
    refine lv_iconst (v := 0) hx hb dX7_keepRow_19 (by decide) ?_
    refine x_put (σ' := (upA uA 0 (uP, uC, uD, uJ, ur, ut, ud, ug), (uT0, uT1, uT2, uT3, uT4, uT5, uT6, uT7, uT8), (uG0, uG1, uG2), (uM0, 0, uM2, uM3, uM4), wZ)) hc hw co_234 fX7_41 rfl rfl (Nat.le_of_ble_eq_true rfl) so_M_1 dX7_keepRow_20 (fun H locs hw => ?_)
    refine lv_aload_n hx hb dX7_keepRow_23 rfl (lv_at hl 0 rfl) ?_
    refine lv_aload_n hx hb dX7_keepRow_24 rfl (lv_at hl 0 rfl) ?_
    refine x_get (v := .int uM2) hc hw co_234 fX7_45 rfl dX7_keepRow_25 ?_
    refine lv_iconst (v := 1) hx hb dX7_keepRow_28 (by decide) ?_
    refine lv_iadd hx hb dX7_keepRow_29 ?_
    refine lv_bipush (v := 6) hx hb dX7_keepRow_30 (by decide) ?_
    refine x_minI hc hl.1 mw_X7_330 ⟨Nat.le_of_ble_eq_true rfl, Nat.le_of_ble_eq_true rfl⟩ ⟨Nat.zero_le _, Nat.zero_le _⟩ dX7_keepRow_32 ?_
    refine x_put (σ' := (upA uA 0 (uP, uC, uD, uJ, ur, ut, ud, ug), (uT0, uT1, uT2, uT3, uT4, uT5, uT6, uT7, uT8), (uG0, uG1, uG2), (uM0, 0, (xminI (uM2 + 1) 6), uM3, uM4), wZ)) hc hw co_234 fX7_45 rfl rfl (Nat.le_of_ble_eq_true rfl) so_M_2 dX7_keepRow_35 (fun H locs hw => ?_)
    cases hf
    exact K _ _ _ _ dX7_keepRow_38 hw
  · have hf := xif_f c1 hf
    refine lv_aload_n hx hb dX7_keepRow_10 rfl (lv_at hl 0 rfl) ?_
    refine x_get (v := .int uM1) hc hw co_234 fX7_41 rfl dX7_keepRow_11 ?_
    refine lv_iconst (v := 1) hx hb dX7_keepRow_14 (by decide) ?_
    refine lv_iadd hx hb dX7_keepRow_15 ?_
    refine lv_goto (tgt := 20) hx hb dX7_keepRow_16 (by decide) ?_
    refine x_put (σ' := (upA uA 0 (uP, uC, uD, uJ, ur, ut, ud, ug), (uT0, uT1, uT2, uT3, uT4, uT5, uT6, uT7, uT8), (uG0, uG1, uG2), (uM0, (uM1 + 1), uM2, uM3, uM4), wZ)) hc hw co_234 fX7_41 rfl rfl (Nat.le_of_ble_eq_true rfl) so_M_1 dX7_keepRow_20 (fun H locs hw => ?_)
    refine lv_aload_n hx hb dX7_keepRow_23 rfl (lv_at hl 0 rfl) ?_
    refine lv_aload_n hx hb dX7_keepRow_24 rfl (lv_at hl 0 rfl) ?_
    refine x_get (v := .int uM2) hc hw co_234 fX7_45 rfl dX7_keepRow_25 ?_
    refine lv_iconst (v := 1) hx hb dX7_keepRow_28 (by decide) ?_
    refine lv_iadd hx hb dX7_keepRow_29 ?_
    refine lv_bipush (v := 6) hx hb dX7_keepRow_30 (by decide) ?_
    refine x_minI hc hl.1 mw_X7_330 ⟨Nat.le_of_ble_eq_true rfl, Nat.le_of_ble_eq_true rfl⟩ ⟨Nat.zero_le _, Nat.zero_le _⟩ dX7_keepRow_32 ?_
    refine x_put (σ' := (upA uA 0 (uP, uC, uD, uJ, ur, ut, ud, ug), (uT0, uT1, uT2, uT3, uT4, uT5, uT6, uT7, uT8), (uG0, uG1, uG2), (uM0, (uM1 + 1), (xminI (uM2 + 1) 6), uM3, uM4), wZ)) hc hw co_234 fX7_45 rfl rfl (Nat.le_of_ble_eq_true rfl) so_M_2 dX7_keepRow_35 (fun H locs hw => ?_)
    cases hf
    exact K _ _ _ _ dX7_keepRow_38 hw
def f_X7_remember (uA : Nat → sAcc) (uP : sPar) (uC : sCla) (uD : sDeb) (uJ : sJou) (ur : xF32) (ut : xF32) (ud : Int32) (ug : Int32) (uM1 : Int32) (uM2 : Int32) : Option ((Nat → sAcc) × Int32 × Int32) :=
  xk (xin uM1 7) (xb2 (f_X7_keepRow uM1 uM2) fun uM1_2 uM2_3 => (some ((upA uA (2 + uM1.toNatClampNeg) (uP, uC, uD, uJ, ur, ut, ud, ug)), uM1_2, uM2_3)))
set_option maxHeartbeats 4000000 in
set_option maxRecDepth 100000 in
theorem m_X7_remember {l : Launch} {κ : xKt} {wZ : sRef × sOut}  {uA : Nat → sAcc} {uP : sPar} {uC : sCla} {uD : sDeb} {uJ : sJou} {ur : xF32} {ut : xF32} {ud : Int32} {ug : Int32} {uT0 : Int32} {uT1 : xF32} {uT2 : Int32} {uT3 : Int32} {uT4 : Int32} {uT5 : xF32} {uT6 : xF32} {uT7 : xF32} {uT8 : xF32} {uG0 : Int32} {uG1 : xF32} {uG2 : xF32} {uM0 : Int32} {uM1 : Int32} {uM2 : Int32} {uM3 : Int32} {uM4 : Int32} {yA : Nat → sAcc} {yM1 : Int32} {yM2 : Int32} (hf : f_X7_remember uA uP uC uD uJ ur ut ud ug uM1 uM2 = some (yA, yM1, yM2)) : xMv l κ yX7_remember cX7_remember 1 none (xR 2 0 0) [.ref (xAd κ 234)] (upA uA 0 (uP, uC, uD, uJ, ur, ut, ud, ug), (uT0, uT1, uT2, uT3, uT4, uT5, uT6, uT7, uT8), (uG0, uG1, uG2), (uM0, uM1, uM2, uM3, uM4), wZ) (upA yA 0 (uP, uC, uD, uJ, ur, ut, ud, ug), (uT0, uT1, uT2, uT3, uT4, uT5, uT6, uT7, uT8), (uG0, uG1, uG2), (uM0, yM1, yM2, uM3, uM4), wZ) := by
  unfold f_X7_remember at hf
  refine xMv_of pn_X7 (Nat.le_of_ble_eq_true rfl) ⟨rfl, rfl⟩ ?_
  intro A p e s m args below meth c ls Q hc hw hl K
  have hc : xC κ A p s m args meth c cX7_remember RX7 1 none := hc
  have hx := hc.1.1
  have hb := hc.1.2.1
  have hl : lv_has ls 1 [(0, .ref (xAd κ 234))] := hl
  refine lv_aload_n hx hb dX7_remember_0 rfl (lv_at hl 0 rfl) ?_
  refine x_get (v := .ref (xAd κ 235)) hc hw co_234 fX7_19 rfl dX7_remember_1 ?_
  refine lv_aload_n hx hb dX7_remember_4 rfl (lv_at hl 0 rfl) ?_
  refine x_get (v := .int uM1) hc hw co_234 fX7_41 rfl dX7_remember_5 ?_
  obtain ⟨k1, hf⟩ := xk_of hf
  refine x_aald hc hw (n := 7) (f := fun i => some (xAd κ (26 * (2 + i)))) co_235 k1 dX7_remember_8 ?_
  have hh9 := xin_h9 k1
  have hh0 := xin_h0 k1
  refine lv_aload_n hx hb dX7_remember_9 rfl (lv_at hl 0 rfl) ?_
  refine x_get (v := .ref (xAd κ (26 * 0))) hc hw co_234 fX7_10 rfl dX7_remember_10 ?_
  refine x_callvV (As := [.ref (xAd κ (26 * 0))]) (rest := []) hc hw hl.1 (m_X0_copyFrom hh9 z9 hh0) kX7_314 (xc_accA (j := 0) hh9 (by decide) rfl) rfl rfl ⟨rfl, rfl⟩ ⟨Nat.le_of_ble_eq_true rfl, Nat.le_of_ble_eq_true rfl⟩ ⟨Nat.zero_le _, Nat.zero_le _⟩ (Nat.le_of_ble_eq_true rfl) dX7_remember_13 (fun H locs hw => ?_)
  rw [upA_out (by first | exact hh0 | decide)] at hw
  have hw : xW κ A s (upA (upA uA (2 + uM1.toNatClampNeg) (uP, uC, uD, uJ, ur, ut, ud, ug)) 0 (uP, uC, uD, uJ, ur, ut, ud, ug), (uT0, uT1, uT2, uT3, uT4, uT5, uT6, uT7, uT8), (uG0, uG1, uG2), (uM0, uM1, uM2, uM3, uM4), wZ) H locs := hw
  refine lv_aload_n hx hb dX7_remember_16 rfl (lv_at hl 0 rfl) ?_
  obtain ⟨uM1_2, uM2_3, h4, hf⟩ := xb2_of hf
  refine x_callvV (As := []) (rest := []) (σ' := (upA (upA uA (2 + uM1.toNatClampNeg) (uP, uC, uD, uJ, ur, ut, ud, ug)) 0 (uP, uC, uD, uJ, ur, ut, ud, ug), (uT0, uT1, uT2, uT3, uT4, uT5, uT6, uT7, uT8), (uG0, uG1, uG2), (uM0, uM1_2, uM2_3, uM3, uM4), wZ)) hc hw hl.1 (m_X7_keepRow h4) kX7_325 co_234 rfl rfl ⟨rfl, rfl⟩ ⟨Nat.le_of_ble_eq_true rfl, Nat.le_of_ble_eq_true rfl⟩ ⟨Nat.zero_le _, Nat.zero_le _⟩ (Nat.le_of_ble_eq_true rfl) dX7_remember_17 (fun H locs hw => ?_)
  cases hf
  exact K _ _ _ _ dX7_remember_20 hw
def f_X7_addParty (x1 : Int32) (x2 : Int32) (uA : Nat → sAcc) (uP : sPar) (uC : sCla) (uD : sDeb) (uJ : sJou) (ur : xF32) (ut : xF32) (ud : Int32) (ug : Int32) (uM1 : Int32) (uM2 : Int32) : Option (Nat × Int32 × (Nat → sAcc) × sPar × Int32 × Int32) :=
  xb1 (f_X7_isSide x1) fun v1 => (if v1 = 0 then (some (2, 0, uA, uP, uM1, uM2)) else (xb1 (f_X7_isWithin x2 1 9) fun v4 => (if v4 = 0 then (some (2, 0, uA, uP, uM1, uM2)) else (if uP.1 < 6 then (xb3 (f_X7_remember uA uP uC uD uJ ur ut ud ug uM1 uM2) fun uA_8 uM1_9 uM2_10 => (xb2 (f_X4_addOne x1 x2 uP) fun v12 uP_13 => (some (0, v12, uA_8, uP_13, uM1_9, uM2_10)))) else (some (3, 0, uA, uP, uM1, uM2))))))
set_option maxHeartbeats 4000000 in
set_option maxRecDepth 100000 in
theorem m_X7_addParty {l : Launch} {κ : xKt} {wZ : sRef × sOut}  {x1 : Int32} {x2 : Int32} {uA : Nat → sAcc} {uP : sPar} {uC : sCla} {uD : sDeb} {uJ : sJou} {ur : xF32} {ut : xF32} {ud : Int32} {ug : Int32} {uT0 : Int32} {uT1 : xF32} {uT2 : Int32} {uT3 : Int32} {uT4 : Int32} {uT5 : xF32} {uT6 : xF32} {uT7 : xF32} {uT8 : xF32} {uG0 : Int32} {uG1 : xF32} {uG2 : xF32} {uM0 : Int32} {uM1 : Int32} {uM2 : Int32} {uM3 : Int32} {uM4 : Int32} {ec : Nat} {rr : Int32} {yA : Nat → sAcc} {yP : sPar} {yM1 : Int32} {yM2 : Int32} (hf : f_X7_addParty x1 x2 uA uP uC uD uJ ur ut ud ug uM1 uM2 = some (ec, rr, yA, yP, yM1, yM2)) : xTi l κ yX7_addParty cX7_addParty 3 (some .int) (xR 3 1 6) [.ref (xAd κ 234), .int x1, .int x2] (upA uA 0 (uP, uC, uD, uJ, ur, ut, ud, ug), (uT0, uT1, uT2, uT3, uT4, uT5, uT6, uT7, uT8), (uG0, uG1, uG2), (uM0, uM1, uM2, uM3, uM4), wZ) (upA yA 0 (yP, uC, uD, uJ, ur, ut, ud, ug), (uT0, uT1, uT2, uT3, uT4, uT5, uT6, uT7, uT8), (uG0, uG1, uG2), (uM0, yM1, yM2, uM3, uM4), wZ) ec rr := by
  unfold f_X7_addParty at hf
  refine xTi_of pn_X7 (Nat.le_of_ble_eq_true rfl) ?_
  intro A p e s m args below meth c ls Q hlt hc hw hl K KX KO
  have hc : xC κ A p s m args meth c cX7_addParty RX7 3 (some .int) := hc
  have hx := hc.1.1
  have hb := hc.1.2.1
  have hl : lv_has ls 3 [(0, .ref (xAd κ 234)), (1, .int x1), (2, .int x2)] := hl
  refine lv_iload_n hx hb dX7_addParty_0 rfl (lv_at hl 1 rfl) ?_
  obtain ⟨v1, h2, hf⟩ := xb1_of hf
  refine x_calliS (As := [.int x1]) (rest := []) (σ' := (upA uA 0 (uP, uC, uD, uJ, ur, ut, ud, ug), (uT0, uT1, uT2, uT3, uT4, uT5, uT6, uT7, uT8), (uG0, uG1, uG2), (uM0, uM1, uM2, uM3, uM4), wZ)) hc hw hl.1 (m_X7_isSide h2) kX7_66 rfl rfl ⟨rfl, rfl⟩ ⟨Nat.le_of_ble_eq_true rfl, Nat.le_of_ble_eq_true rfl⟩ ⟨Nat.zero_le _, Nat.zero_le _⟩ (Nat.le_of_ble_eq_true rfl) dX7_addParty_1 (fun H locs hw => ?_)
  refine lv_if_eq (tgt := 17) hx hb dX7_addParty_4 (by decide) (fun c3 => ?_) (fun c3 => ?_)
  · have hf := xif_t c3 hf
    cases hf
    exact KX _ _ _ _ _ _ _ (by decide) tX7_74 dX7_addParty_17 dX7_addParty_20 dX7_addParty_21 dX7_addParty_24 hl.1 (Nat.le_of_ble_eq_true rfl) hw
  · have hf := xif_f c3 hf
    refine lv_iload_n hx hb dX7_addParty_7 rfl (lv_at hl 2 rfl) ?_
    refine lv_iconst (v := 1) hx hb dX7_addParty_8 (by decide) ?_
    refine lv_bipush (v := 9) hx hb dX7_addParty_9 (by decide) ?_
    obtain ⟨v4, h5, hf⟩ := xb1_of hf
    refine x_calliS (As := [.int x2, .int 1, .int 9]) (rest := []) (σ' := (upA uA 0 (uP, uC, uD, uJ, ur, ut, ud, ug), (uT0, uT1, uT2, uT3, uT4, uT5, uT6, uT7, uT8), (uG0, uG1, uG2), (uM0, uM1, uM2, uM3, uM4), wZ)) hc hw hl.1 (m_X7_isWithin h5) kX7_70 rfl rfl ⟨rfl, rfl⟩ ⟨Nat.le_of_ble_eq_true rfl, Nat.le_of_ble_eq_true rfl⟩ ⟨Nat.zero_le _, Nat.zero_le _⟩ (Nat.le_of_ble_eq_true rfl) dX7_addParty_11 (fun H locs hw => ?_)
    refine lv_if_ne (tgt := 25) hx hb dX7_addParty_14 (by decide) (fun c6 => ?_) (fun c6 => ?_)
    · have hf := xif_f c6 hf
      refine lv_aload_n hx hb dX7_addParty_25 rfl (lv_at hl 0 rfl) ?_
      refine x_get (v := .ref (xAd κ (26 * 0))) hc hw co_234 fX7_10 rfl dX7_addParty_26 ?_
      refine x_get (v := .ref (xAd κ (26 * 0 + 1))) hc hw (ca_0 z9) fX7_54 rfl dX7_addParty_29 ?_
      refine x_get (v := .int uP.1) hc hw (ca_1 z9) fX7_58 rfl dX7_addParty_32 ?_
      refine lv_bipush (v := 6) hx hb dX7_addParty_35 (by decide) ?_
      refine lv_icmp_lt (tgt := 48) hx hb dX7_addParty_37 (by decide) (fun c7 => ?_) (fun c7 => ?_)
      · have hf := xif_t c7 hf
        refine lv_aload_n hx hb dX7_addParty_48 rfl (lv_at hl 0 rfl) ?_
        obtain ⟨uA_8, uM1_9, uM2_10, h11, hf⟩ := xb3_of hf
        refine x_callvV (As := []) (rest := []) (σ' := (upA uA_8 0 (uP, uC, uD, uJ, ur, ut, ud, ug), (uT0, uT1, uT2, uT3, uT4, uT5, uT6, uT7, uT8), (uG0, uG1, uG2), (uM0, uM1_9, uM2_10, uM3, uM4), wZ)) hc hw hl.1 (m_X7_remember h11) kX7_80 co_234 rfl rfl ⟨rfl, rfl⟩ ⟨Nat.le_of_ble_eq_true rfl, Nat.le_of_ble_eq_true rfl⟩ ⟨Nat.zero_le _, Nat.zero_le _⟩ (Nat.le_of_ble_eq_true rfl) dX7_addParty_49 (fun H locs hw => ?_)
        refine lv_aload_n hx hb dX7_addParty_52 rfl (lv_at hl 0 rfl) ?_
        refine x_get (v := .ref (xAd κ (26 * 0))) hc hw co_234 fX7_10 rfl dX7_addParty_53 ?_
        refine x_get (v := .ref (xAd κ (26 * 0 + 1))) hc hw (ca_0 z9) fX7_54 rfl dX7_addParty_56 ?_
        refine lv_iload_n hx hb dX7_addParty_59 rfl (lv_at hl 1 rfl) ?_
        refine lv_iload_n hx hb dX7_addParty_60 rfl (lv_at hl 2 rfl) ?_
        obtain ⟨v12, uP_13, h14, hf⟩ := xb2_of hf
        refine x_calliV (As := [.int x1, .int x2]) (rest := []) (σ' := (upA uA_8 0 (uP_13, uC, uD, uJ, ur, ut, ud, ug), (uT0, uT1, uT2, uT3, uT4, uT5, uT6, uT7, uT8), (uG0, uG1, uG2), (uM0, uM1_9, uM2_10, uM3, uM4), wZ)) hc hw hl.1 (m_X4_addOne z9 h14) kX7_83 (ca_1 z9) rfl rfl ⟨rfl, rfl⟩ ⟨Nat.le_of_ble_eq_true rfl, Nat.le_of_ble_eq_true rfl⟩ ⟨Nat.zero_le _, Nat.zero_le _⟩ (Nat.le_of_ble_eq_true rfl) dX7_addParty_61 (fun H locs hw => ?_)
        cases hf
        exact K _ _ _ _ _ _ (by decide) (by decide) dX7_addParty_64 rfl rfl hw
      · have hf := xif_f c7 hf
        cases hf
        exact KX _ _ _ _ _ _ _ (by decide) tX7_77 dX7_addParty_40 dX7_addParty_43 dX7_addParty_44 dX7_addParty_47 hl.1 (Nat.le_of_ble_eq_true rfl) hw
    · have hf := xif_t c6 hf
      cases hf
      exact KX _ _ _ _ _ _ _ (by decide) tX7_74 dX7_addParty_17 dX7_addParty_20 dX7_addParty_21 dX7_addParty_24 hl.1 (Nat.le_of_ble_eq_true rfl) hw
def f_X7_faultOfRate (x0 : Int32) (x1 : Int32) (x2 : Int32) : Option Int32 :=
  xb1 (f_X7_isWithin x0 0 (x1 - 1)) fun v1 => (if v1 = 0 then (some 7) else (xb1 (f_X7_isWithin x2 0 2000) fun v4 => (if v4 = 0 then (some 8) else (some 0))))
set_option maxHeartbeats 4000000 in
set_option maxRecDepth 100000 in
theorem m_X7_faultOfRate {l : Launch} {κ : xKt} {wS : sW}  {x0 : Int32} {x1 : Int32} {x2 : Int32} {rr : Int32} (hf : f_X7_faultOfRate x0 x1 x2 = some rr) : xMi l κ yX7_faultOfRate cX7_faultOfRate 3 (some .int) (xR 1 0 0) [.int x0, .int x1, .int x2] wS wS rr := by
  unfold f_X7_faultOfRate at hf
  refine xMi_of pn_X7 (Nat.le_of_ble_eq_true rfl) ⟨rfl, rfl⟩ ?_
  intro A p e s m args below meth c ls Q hc hw hl K
  have hc : xC κ A p s m args meth c cX7_faultOfRate RX7 3 (some .int) := hc
  have hx := hc.1.1
  have hb := hc.1.2.1
  have hl : lv_has ls 3 [(0, .int x0), (1, .int x1), (2, .int x2)] := hl
  refine lv_iload_n hx hb dX7_faultOfRate_0 rfl (lv_at hl 0 rfl) ?_
  refine lv_iconst (v := 0) hx hb dX7_faultOfRate_1 (by decide) ?_
  refine lv_iload_n hx hb dX7_faultOfRate_2 rfl (lv_at hl 1 rfl) ?_
  refine lv_iconst (v := 1) hx hb dX7_faultOfRate_3 (by decide) ?_
  refine lv_isub hx hb dX7_faultOfRate_4 ?_
  obtain ⟨v1, h2, hf⟩ := xb1_of hf
  refine x_calliS (As := [.int x0, .int 0, .int (x1 - 1)]) (rest := []) (σ' := wS) hc hw hl.1 (m_X7_isWithin h2) kX7_70 rfl rfl ⟨rfl, rfl⟩ ⟨Nat.le_of_ble_eq_true rfl, Nat.le_of_ble_eq_true rfl⟩ ⟨Nat.zero_le _, Nat.zero_le _⟩ (Nat.le_of_ble_eq_true rfl) dX7_faultOfRate_5 (fun H locs hw => ?_)
  refine lv_if_ne (tgt := 14) hx hb dX7_faultOfRate_8 (by decide) (fun c3 => ?_) (fun c3 => ?_)
  · have hf := xif_f c3 hf
    refine lv_iload_n hx hb dX7_faultOfRate_14 rfl (lv_at hl 2 rfl) ?_
    refine lv_iconst (v := 0) hx hb dX7_faultOfRate_15 (by decide) ?_
    refine lv_sipush (v := 2000) hx hb dX7_faultOfRate_16 (by decide) ?_
    obtain ⟨v4, h5, hf⟩ := xb1_of hf
    refine x_calliS (As := [.int x2, .int 0, .int 2000]) (rest := []) (σ' := wS) hc hw hl.1 (m_X7_isWithin h5) kX7_70 rfl rfl ⟨rfl, rfl⟩ ⟨Nat.le_of_ble_eq_true rfl, Nat.le_of_ble_eq_true rfl⟩ ⟨Nat.zero_le _, Nat.zero_le _⟩ (Nat.le_of_ble_eq_true rfl) dX7_faultOfRate_19 (fun H locs hw => ?_)
    refine lv_if_eq (tgt := 29) hx hb dX7_faultOfRate_22 (by decide) (fun c6 => ?_) (fun c6 => ?_)
    · have hf := xif_t c6 hf
      refine lv_bipush (v := 8) hx hb dX7_faultOfRate_29 (by decide) ?_
      cases hf
      exact K _ _ _ _ dX7_faultOfRate_31 rfl hw
    · have hf := xif_f c6 hf
      refine lv_iconst (v := 0) hx hb dX7_faultOfRate_25 (by decide) ?_
      refine lv_goto (tgt := 31) hx hb dX7_faultOfRate_26 (by decide) ?_
      cases hf
      exact K _ _ _ _ dX7_faultOfRate_31 rfl hw
  · have hf := xif_t c3 hf
    refine lv_bipush (v := 7) hx hb dX7_faultOfRate_11 (by decide) ?_
    cases hf
    exact K _ _ _ _ dX7_faultOfRate_13 rfl hw
def f_X7_keepReason (x1 : Int32) (uM3 : Int32) : Option Int32 :=
  if 6 < x1 then (some uM3) else (some x1)
set_option maxHeartbeats 4000000 in
set_option maxRecDepth 100000 in
theorem m_X7_keepReason {l : Launch} {κ : xKt} {wZ : sRef × sOut}  {x1 : Int32} {uA : Nat → sAcc} {uP : sPar} {uC : sCla} {uD : sDeb} {uJ : sJou} {ur : xF32} {ut : xF32} {ud : Int32} {ug : Int32} {uT0 : Int32} {uT1 : xF32} {uT2 : Int32} {uT3 : Int32} {uT4 : Int32} {uT5 : xF32} {uT6 : xF32} {uT7 : xF32} {uT8 : xF32} {uG0 : Int32} {uG1 : xF32} {uG2 : xF32} {uM0 : Int32} {uM1 : Int32} {uM2 : Int32} {uM3 : Int32} {uM4 : Int32} {yM3 : Int32} (hf : f_X7_keepReason x1 uM3 = some yM3) : xMv l κ yX7_keepReason cX7_keepReason 2 none (xR 0 0 0) [.ref (xAd κ 234), .int x1] (upA uA 0 (uP, uC, uD, uJ, ur, ut, ud, ug), (uT0, uT1, uT2, uT3, uT4, uT5, uT6, uT7, uT8), (uG0, uG1, uG2), (uM0, uM1, uM2, uM3, uM4), wZ) (upA uA 0 (uP, uC, uD, uJ, ur, ut, ud, ug), (uT0, uT1, uT2, uT3, uT4, uT5, uT6, uT7, uT8), (uG0, uG1, uG2), (uM0, uM1, uM2, yM3, uM4), wZ) := by
  unfold f_X7_keepReason at hf
  refine xMv_of pn_X7 (Nat.le_of_ble_eq_true rfl) ⟨rfl, rfl⟩ ?_
  intro A p e s m args below meth c ls Q hc hw hl K
  have hc : xC κ A p s m args meth c cX7_keepReason RX7 2 none := hc
  have hx := hc.1.1
  have hb := hc.1.2.1
  have hl : lv_has ls 2 [(0, .ref (xAd κ 234)), (1, .int x1)] := hl
  refine lv_iload_n hx hb dX7_keepReason_0 rfl (lv_at hl 1 rfl) ?_
  refine lv_bipush (v := 6) hx hb dX7_keepReason_1 (by decide) ?_
  refine lv_icmp_gt (tgt := 11) hx hb dX7_keepReason_3 (by decide) (fun c1 => ?_) (fun c1 => ?_)
  · have hf := xif_t c1 hf
    cases hf
    exact K _ _ _ _ dX7_keepReason_11 hw
  · have hf := xif_f c1 hf
    refine lv_aload_n hx hb dX7_keepReason_6 rfl (lv_at hl 0 rfl) ?_
    refine lv_iload_n hx hb dX7_keepReason_7 rfl (lv_at hl 1 rfl) ?_
    refine x_put (σ' := (upA uA 0 (uP, uC, uD, uJ, ur, ut, ud, ug), (uT0, uT1, uT2, uT3, uT4, uT5, uT6, uT7, uT8), (uG0, uG1, uG2), (uM0, uM1, uM2, x1, uM4), wZ)) hc hw co_234 fX7_48 rfl rfl (Nat.le_of_ble_eq_true rfl) so_M_3 dX7_keepReason_8 (fun H locs hw => ?_)
    cases hf
    exact K _ _ _ _ dX7_keepReason_11 hw
def f_X7_refuse (x1 : Int32) (uM3 : Int32) : Option (Nat × Int32) :=
  if x1 = 0 then (some (0, uM3)) else (if x1 = 7 then (some (1, uM3)) else (if x1 = 8 then (some (2, uM3)) else (if x1 = 9 then (some (3, uM3)) else (xb1 (f_X7_keepReason x1 uM3) fun uM3_5 => (some (4, uM3_5))))))
set_option maxHeartbeats 4000000 in
set_option maxRecDepth 100000 in
theorem m_X7_refuse {l : Launch} {κ : xKt} {wZ : sRef × sOut}  {x1 : Int32} {uA : Nat → sAcc} {uP : sPar} {uC : sCla} {uD : sDeb} {uJ : sJou} {ur : xF32} {ut : xF32} {ud : Int32} {ug : Int32} {uT0 : Int32} {uT1 : xF32} {uT2 : Int32} {uT3 : Int32} {uT4 : Int32} {uT5 : xF32} {uT6 : xF32} {uT7 : xF32} {uT8 : xF32} {uG0 : Int32} {uG1 : xF32} {uG2 : xF32} {uM0 : Int32} {uM1 : Int32} {uM2 : Int32} {uM3 : Int32} {uM4 : Int32} {ec : Nat} {yM3 : Int32} (hf : f_X7_refuse x1 uM3 = some (ec, yM3)) : xTv l κ yX7_refuse cX7_refuse 2 none (xR 1 1 6) [.ref (xAd κ 234), .int x1] (upA uA 0 (uP, uC, uD, uJ, ur, ut, ud, ug), (uT0, uT1, uT2, uT3, uT4, uT5, uT6, uT7, uT8), (uG0, uG1, uG2), (uM0, uM1, uM2, uM3, uM4), wZ) (upA uA 0 (uP, uC, uD, uJ, ur, ut, ud, ug), (uT0, uT1, uT2, uT3, uT4, uT5, uT6, uT7, uT8), (uG0, uG1, uG2), (uM0, uM1, uM2, yM3, uM4), wZ) ec := by
  unfold f_X7_refuse at hf
  refine xTv_of pn_X7 (Nat.le_of_ble_eq_true rfl) ?_
  intro A p e s m args below meth c ls Q hlt hc hw hl K KX KO
  have hc : xC κ A p s m args meth c cX7_refuse RX7 2 none := hc
  have hx := hc.1.1
  have hb := hc.1.2.1
  have hl : lv_has ls 2 [(0, .ref (xAd κ 234)), (1, .int x1)] := hl
  refine lv_iload_n hx hb dX7_refuse_0 rfl (lv_at hl 1 rfl) ?_
  by_cases c1 : x1 = 0
  · have hf := xif_t c1 hf
    refine x_tabI (k := 0) (off := 55) (tgt := 56) hx hb dX7_refuse_1 c1 (by decide) (by decide) (by decide) ?_
    cases hf
    exact K _ _ _ _ _ _ (by decide) (by decide) dX7_refuse_56 rfl hw
  have hf := xif_f c1 hf
  by_cases c2 : x1 = 7
  · have hf := xif_t c2 hf
    refine x_tabI (k := 7) (off := 56) (tgt := 57) hx hb dX7_refuse_1 c2 (by decide) (by decide) (by decide) ?_
    cases hf
    exact KX _ _ _ _ _ _ _ (by decide) tX7_158 dX7_refuse_57 dX7_refuse_60 dX7_refuse_61 dX7_refuse_64 hl.1 (Nat.le_of_ble_eq_true rfl) hw
  have hf := xif_f c2 hf
  by_cases c3 : x1 = 8
  · have hf := xif_t c3 hf
    refine x_tabI (k := 8) (off := 64) (tgt := 65) hx hb dX7_refuse_1 c3 (by decide) (by decide) (by decide) ?_
    cases hf
    exact KX _ _ _ _ _ _ _ (by decide) tX7_74 dX7_refuse_65 dX7_refuse_68 dX7_refuse_69 dX7_refuse_72 hl.1 (Nat.le_of_ble_eq_true rfl) hw
  have hf := xif_f c3 hf
  by_cases c4 : x1 = 9
  · have hf := xif_t c4 hf
    refine x_tabI (k := 9) (off := 72) (tgt := 73) hx hb dX7_refuse_1 c4 (by decide) (by decide) (by decide) ?_
    cases hf
    exact KX _ _ _ _ _ _ _ (by decide) tX7_77 dX7_refuse_73 dX7_refuse_76 dX7_refuse_77 dX7_refuse_80 hl.1 (Nat.le_of_ble_eq_true rfl) hw
  have hf := xif_f c4 hf
  have c1 := x_neT (z := 0) c1 (by decide)
  have c2 := x_neT (z := 7) c2 (by decide)
  have c3 := x_neT (z := 8) c3 (by decide)
  have c4 := x_neT (z := 9) c4 (by decide)
  refine x_tabD (tgt := 81) hx hb dX7_refuse_1 ?_ (by decide) ?_
  · by_cases q1 : x1.toInt < 0
    · exact Or.inl q1
    by_cases q2 : 9 < x1.toInt
    · exact Or.inr (Or.inl q2)
    have q3 : x1.toInt = 1 ∨ x1.toInt = 2 ∨ x1.toInt = 3 ∨ x1.toInt = 4 ∨ x1.toInt = 5 ∨ x1.toInt = 6 := by omega
    refine Or.inr (Or.inr ?_)
    rcases q3 with q3 | q3 | q3 | q3 | q3 | q3 <;> (rw [q3]; decide)
  refine lv_aload_n hx hb dX7_refuse_81 rfl (lv_at hl 0 rfl) ?_
  refine lv_iload_n hx hb dX7_refuse_82 rfl (lv_at hl 1 rfl) ?_
  obtain ⟨uM3_5, h6, hf⟩ := xb1_of hf
  refine x_callvV (As := [.int x1]) (rest := []) (σ' := (upA uA 0 (uP, uC, uD, uJ, ur, ut, ud, ug), (uT0, uT1, uT2, uT3, uT4, uT5, uT6, uT7, uT8), (uG0, uG1, uG2), (uM0, uM1, uM2, uM3_5, uM4), wZ)) hc hw hl.1 (m_X7_keepReason h6) kX7_322 co_234 rfl rfl ⟨rfl, rfl⟩ ⟨Nat.le_of_ble_eq_true rfl, Nat.le_of_ble_eq_true rfl⟩ ⟨Nat.zero_le _, Nat.zero_le _⟩ (Nat.le_of_ble_eq_true rfl) dX7_refuse_83 (fun H locs hw => ?_)
  cases hf
  exact KX _ _ _ _ _ _ _ (by decide) tX7_335 dX7_refuse_86 dX7_refuse_89 dX7_refuse_90 dX7_refuse_93 hl.1 (Nat.le_of_ble_eq_true rfl) hw
def f_X7_setRate (x1 : Int32) (x2 : Int32) (uA : Nat → sAcc) (uP : sPar) (uC : sCla) (uD : sDeb) (uJ : sJou) (ur : xF32) (ut : xF32) (ud : Int32) (ug : Int32) (uM1 : Int32) (uM2 : Int32) (uM3 : Int32) : Option (Nat × Int32 × (Nat → sAcc) × xF32 × Int32 × Int32 × Int32) :=
  xb1 (f_X7_faultOfRate x1 4 x2) fun v1 => (xb2 (f_X7_refuse v1 uM3) fun e3 uM3_4 => (if e3 = 0 then (xb3 (f_X7_remember uA uP uC uD uJ ur ut ud ug uM1 uM2) fun uA_7 uM1_8 uM2_9 => (xk (xin x1 4) (xk (xin x1 4) (some (0, (ur x1.toNatClampNeg), uA_7, (upd ur x1.toNatClampNeg x2), uM1_8, uM2_9, uM3_4))))) else (some (e3, 0, uA, ur, uM1, uM2, uM3_4))))
set_option maxHeartbeats 4000000 in
set_option maxRecDepth 100000 in
theorem m_X7_setRate {l : Launch} {κ : xKt} {wZ : sRef × sOut}  {x1 : Int32} {x2 : Int32} {uA : Nat → sAcc} {uP : sPar} {uC : sCla} {uD : sDeb} {uJ : sJou} {ur : xF32} {ut : xF32} {ud : Int32} {ug : Int32} {uT0 : Int32} {uT1 : xF32} {uT2 : Int32} {uT3 : Int32} {uT4 : Int32} {uT5 : xF32} {uT6 : xF32} {uT7 : xF32} {uT8 : xF32} {uG0 : Int32} {uG1 : xF32} {uG2 : xF32} {uM0 : Int32} {uM1 : Int32} {uM2 : Int32} {uM3 : Int32} {uM4 : Int32} {ec : Nat} {rr : Int32} {yA : Nat → sAcc} {yr : xF32} {yM1 : Int32} {yM2 : Int32} {yM3 : Int32} (hf : f_X7_setRate x1 x2 uA uP uC uD uJ ur ut ud ug uM1 uM2 uM3 = some (ec, rr, yA, yr, yM1, yM2, yM3)) : xTi l κ yX7_setRate cX7_setRate 4 (some .int) (xR 3 1 6) [.ref (xAd κ 234), .int x1, .int x2] (upA uA 0 (uP, uC, uD, uJ, ur, ut, ud, ug), (uT0, uT1, uT2, uT3, uT4, uT5, uT6, uT7, uT8), (uG0, uG1, uG2), (uM0, uM1, uM2, uM3, uM4), wZ) (upA yA 0 (uP, uC, uD, uJ, yr, ut, ud, ug), (uT0, uT1, uT2, uT3, uT4, uT5, uT6, uT7, uT8), (uG0, uG1, uG2), (uM0, yM1, yM2, yM3, uM4), wZ) ec rr := by
  unfold f_X7_setRate at hf
  refine xTi_of pn_X7 (Nat.le_of_ble_eq_true rfl) ?_
  intro A p e s m args below meth c ls Q hlt hc hw hl K KX KO
  have hc : xC κ A p s m args meth c cX7_setRate RX7 4 (some .int) := hc
  have hx := hc.1.1
  have hb := hc.1.2.1
  have hl : lv_has ls 4 [(0, .ref (xAd κ 234)), (1, .int x1), (2, .int x2)] := hl
  refine lv_aload_n hx hb dX7_setRate_0 rfl (lv_at hl 0 rfl) ?_
  refine lv_iload_n hx hb dX7_setRate_1 rfl (lv_at hl 1 rfl) ?_
  refine lv_iconst (v := 4) hx hb dX7_setRate_2 (by decide) ?_
  refine lv_iload_n hx hb dX7_setRate_3 rfl (lv_at hl 2 rfl) ?_
  obtain ⟨v1, h2, hf⟩ := xb1_of hf
  refine x_calliS (As := [.int x1, .int 4, .int x2]) (rest := [.ref (xAd κ 234)]) (σ' := (upA uA 0 (uP, uC, uD, uJ, ur, ut, ud, ug), (uT0, uT1, uT2, uT3, uT4, uT5, uT6, uT7, uT8), (uG0, uG1, uG2), (uM0, uM1, uM2, uM3, uM4), wZ)) hc hw hl.1 (m_X7_faultOfRate h2) kX7_87 rfl rfl ⟨rfl, rfl⟩ ⟨Nat.le_of_ble_eq_true rfl, Nat.le_of_ble_eq_true rfl⟩ ⟨Nat.zero_le _, Nat.zero_le _⟩ (Nat.le_of_ble_eq_true rfl) dX7_setRate_4 (fun H locs hw => ?_)
  obtain ⟨e3, uM3_4, h5, hf⟩ := xb2_of hf
  refine x_tcallvV (As := [.int v1]) (rest := []) (σ' := (upA uA 0 (uP, uC, uD, uJ, ur, ut, ud, ug), (uT0, uT1, uT2, uT3, uT4, uT5, uT6, uT7, uT8), (uG0, uG1, uG2), (uM0, uM1, uM2, uM3_4, uM4), wZ)) hc hw hl.1 hlt (m_X7_refuse h5) kX7_91 co_234 rfl rfl ⟨rfl, rfl⟩ ⟨Nat.le_of_ble_eq_true rfl, Nat.le_of_ble_eq_true rfl⟩ ⟨Nat.le_of_ble_eq_true rfl, Nat.le_of_ble_eq_true rfl⟩ (Nat.le_of_ble_eq_true rfl) dX7_setRate_7 (fun c6 H locs q ce hw q1 q2 q3 => ?_) (fun c6 H locs hw => ?_)
  · have hf := xif_f c6 hf
    cases hf
    exact KO _ _ _ _ _ _ _ _ _ (Nat.le_refl _) (Nat.le_refl _) c6 hw q1 q2 q3
  · have hf := xif_t c6 hf
    refine lv_aload_n hx hb dX7_setRate_10 rfl (lv_at hl 0 rfl) ?_
    obtain ⟨uA_7, uM1_8, uM2_9, h10, hf⟩ := xb3_of hf
    refine x_callvV (As := []) (rest := []) (σ' := (upA uA_7 0 (uP, uC, uD, uJ, ur, ut, ud, ug), (uT0, uT1, uT2, uT3, uT4, uT5, uT6, uT7, uT8), (uG0, uG1, uG2), (uM0, uM1_8, uM2_9, uM3_4, uM4), wZ)) hc hw hl.1 (m_X7_remember h10) kX7_80 co_234 rfl rfl ⟨rfl, rfl⟩ ⟨Nat.le_of_ble_eq_true rfl, Nat.le_of_ble_eq_true rfl⟩ ⟨Nat.le_of_ble_eq_true rfl, Nat.le_of_ble_eq_true rfl⟩ (Nat.le_of_ble_eq_true rfl) dX7_setRate_11 (fun H locs hw => ?_)
    refine lv_aload_n hx hb dX7_setRate_14 rfl (lv_at hl 0 rfl) ?_
    refine x_get (v := .ref (xAd κ (26 * 0))) hc hw co_234 fX7_10 rfl dX7_setRate_15 ?_
    refine x_get (v := .ref (xAd κ (26 * 0 + 24))) hc hw (ca_0 z9) fX7_95 rfl dX7_setRate_18 ?_
    refine lv_iload_n hx hb dX7_setRate_21 rfl (lv_at hl 1 rfl) ?_
    obtain ⟨k11, hf⟩ := xk_of hf
    refine x_iald (n := 4) (f := ur) hc hw (ca_24 z9) k11 dX7_setRate_22 ?_
    refine lv_istore_n (lv' := [(3, .int (ur x1.toNatClampNeg)), (0, .ref (xAd κ 234)), (1, .int x1), (2, .int x2)]) hx hb dX7_setRate_23 rfl hl (by decide) rfl (fun ls hl => ?_)
    refine lv_aload_n hx hb dX7_setRate_24 rfl (lv_at hl 1 rfl) ?_
    refine x_get (v := .ref (xAd κ (26 * 0))) hc hw co_234 fX7_10 rfl dX7_setRate_25 ?_
    refine x_get (v := .ref (xAd κ (26 * 0 + 24))) hc hw (ca_0 z9) fX7_95 rfl dX7_setRate_28 ?_
    refine lv_iload_n hx hb dX7_setRate_31 rfl (lv_at hl 2 rfl) ?_
    refine lv_iload_n hx hb dX7_setRate_32 rfl (lv_at hl 3 rfl) ?_
    obtain ⟨k12, hf⟩ := xk_of hf
    refine x_iast (n := 4) (f := ur) (σ' := (upA uA_7 0 (uP, uC, uD, uJ, (upd ur x1.toNatClampNeg x2), ut, ud, ug), (uT0, uT1, uT2, uT3, uT4, uT5, uT6, uT7, uT8), (uG0, uG1, uG2), (uM0, uM1_8, uM2_9, uM3_4, uM4), wZ)) hc hw (ca_24 z9) k12 (sa_4_0 z9) dX7_setRate_33 (fun H locs hw => ?_)
    refine lv_iload_n hx hb dX7_setRate_34 rfl (lv_at hl 0 rfl) ?_
    cases hf
    exact K _ _ _ _ _ _ (by decide) (by decide) dX7_setRate_35 rfl rfl hw
def f_X7_setTier (x1 : Int32) (x2 : Int32) (uA : Nat → sAcc) (uP : sPar) (uC : sCla) (uD : sDeb) (uJ : sJou) (ur : xF32) (ut : xF32) (ud : Int32) (ug : Int32) (uM1 : Int32) (uM2 : Int32) (uM3 : Int32) : Option (Nat × Int32 × (Nat → sAcc) × xF32 × Int32 × Int32 × Int32) :=
  xb1 (f_X7_faultOfRate x1 4 x2) fun v1 => (xb2 (f_X7_refuse v1 uM3) fun e3 uM3_4 => (if e3 = 0 then (xb3 (f_X7_remember uA uP uC uD uJ ur ut ud ug uM1 uM2) fun uA_7 uM1_8 uM2_9 => (xk (xin x1 4) (xk (xin x1 4) (some (0, (ut x1.toNatClampNeg), uA_7, (upd ut x1.toNatClampNeg x2), uM1_8, uM2_9, uM3_4))))) else (some (e3, 0, uA, ut, uM1, uM2, uM3_4))))
set_option maxHeartbeats 4000000 in
set_option maxRecDepth 100000 in
theorem m_X7_setTier {l : Launch} {κ : xKt} {wZ : sRef × sOut}  {x1 : Int32} {x2 : Int32} {uA : Nat → sAcc} {uP : sPar} {uC : sCla} {uD : sDeb} {uJ : sJou} {ur : xF32} {ut : xF32} {ud : Int32} {ug : Int32} {uT0 : Int32} {uT1 : xF32} {uT2 : Int32} {uT3 : Int32} {uT4 : Int32} {uT5 : xF32} {uT6 : xF32} {uT7 : xF32} {uT8 : xF32} {uG0 : Int32} {uG1 : xF32} {uG2 : xF32} {uM0 : Int32} {uM1 : Int32} {uM2 : Int32} {uM3 : Int32} {uM4 : Int32} {ec : Nat} {rr : Int32} {yA : Nat → sAcc} {yt : xF32} {yM1 : Int32} {yM2 : Int32} {yM3 : Int32} (hf : f_X7_setTier x1 x2 uA uP uC uD uJ ur ut ud ug uM1 uM2 uM3 = some (ec, rr, yA, yt, yM1, yM2, yM3)) : xTi l κ yX7_setTier cX7_setTier 4 (some .int) (xR 3 1 6) [.ref (xAd κ 234), .int x1, .int x2] (upA uA 0 (uP, uC, uD, uJ, ur, ut, ud, ug), (uT0, uT1, uT2, uT3, uT4, uT5, uT6, uT7, uT8), (uG0, uG1, uG2), (uM0, uM1, uM2, uM3, uM4), wZ) (upA yA 0 (uP, uC, uD, uJ, ur, yt, ud, ug), (uT0, uT1, uT2, uT3, uT4, uT5, uT6, uT7, uT8), (uG0, uG1, uG2), (uM0, yM1, yM2, yM3, uM4), wZ) ec rr := by
  unfold f_X7_setTier at hf
  refine xTi_of pn_X7 (Nat.le_of_ble_eq_true rfl) ?_
  intro A p e s m args below meth c ls Q hlt hc hw hl K KX KO
  have hc : xC κ A p s m args meth c cX7_setTier RX7 4 (some .int) := hc
  have hx := hc.1.1
  have hb := hc.1.2.1
  have hl : lv_has ls 4 [(0, .ref (xAd κ 234)), (1, .int x1), (2, .int x2)] := hl
  refine lv_aload_n hx hb dX7_setTier_0 rfl (lv_at hl 0 rfl) ?_
  refine lv_iload_n hx hb dX7_setTier_1 rfl (lv_at hl 1 rfl) ?_
  refine lv_iconst (v := 4) hx hb dX7_setTier_2 (by decide) ?_
  refine lv_iload_n hx hb dX7_setTier_3 rfl (lv_at hl 2 rfl) ?_
  obtain ⟨v1, h2, hf⟩ := xb1_of hf
  refine x_calliS (As := [.int x1, .int 4, .int x2]) (rest := [.ref (xAd κ 234)]) (σ' := (upA uA 0 (uP, uC, uD, uJ, ur, ut, ud, ug), (uT0, uT1, uT2, uT3, uT4, uT5, uT6, uT7, uT8), (uG0, uG1, uG2), (uM0, uM1, uM2, uM3, uM4), wZ)) hc hw hl.1 (m_X7_faultOfRate h2) kX7_87 rfl rfl ⟨rfl, rfl⟩ ⟨Nat.le_of_ble_eq_true rfl, Nat.le_of_ble_eq_true rfl⟩ ⟨Nat.zero_le _, Nat.zero_le _⟩ (Nat.le_of_ble_eq_true rfl) dX7_setTier_4 (fun H locs hw => ?_)
  obtain ⟨e3, uM3_4, h5, hf⟩ := xb2_of hf
  refine x_tcallvV (As := [.int v1]) (rest := []) (σ' := (upA uA 0 (uP, uC, uD, uJ, ur, ut, ud, ug), (uT0, uT1, uT2, uT3, uT4, uT5, uT6, uT7, uT8), (uG0, uG1, uG2), (uM0, uM1, uM2, uM3_4, uM4), wZ)) hc hw hl.1 hlt (m_X7_refuse h5) kX7_91 co_234 rfl rfl ⟨rfl, rfl⟩ ⟨Nat.le_of_ble_eq_true rfl, Nat.le_of_ble_eq_true rfl⟩ ⟨Nat.le_of_ble_eq_true rfl, Nat.le_of_ble_eq_true rfl⟩ (Nat.le_of_ble_eq_true rfl) dX7_setTier_7 (fun c6 H locs q ce hw q1 q2 q3 => ?_) (fun c6 H locs hw => ?_)
  · have hf := xif_f c6 hf
    cases hf
    exact KO _ _ _ _ _ _ _ _ _ (Nat.le_refl _) (Nat.le_refl _) c6 hw q1 q2 q3
  · have hf := xif_t c6 hf
    refine lv_aload_n hx hb dX7_setTier_10 rfl (lv_at hl 0 rfl) ?_
    obtain ⟨uA_7, uM1_8, uM2_9, h10, hf⟩ := xb3_of hf
    refine x_callvV (As := []) (rest := []) (σ' := (upA uA_7 0 (uP, uC, uD, uJ, ur, ut, ud, ug), (uT0, uT1, uT2, uT3, uT4, uT5, uT6, uT7, uT8), (uG0, uG1, uG2), (uM0, uM1_8, uM2_9, uM3_4, uM4), wZ)) hc hw hl.1 (m_X7_remember h10) kX7_80 co_234 rfl rfl ⟨rfl, rfl⟩ ⟨Nat.le_of_ble_eq_true rfl, Nat.le_of_ble_eq_true rfl⟩ ⟨Nat.le_of_ble_eq_true rfl, Nat.le_of_ble_eq_true rfl⟩ (Nat.le_of_ble_eq_true rfl) dX7_setTier_11 (fun H locs hw => ?_)
    refine lv_aload_n hx hb dX7_setTier_14 rfl (lv_at hl 0 rfl) ?_
    refine x_get (v := .ref (xAd κ (26 * 0))) hc hw co_234 fX7_10 rfl dX7_setTier_15 ?_
    refine x_get (v := .ref (xAd κ (26 * 0 + 25))) hc hw (ca_0 z9) fX7_99 rfl dX7_setTier_18 ?_
    refine lv_iload_n hx hb dX7_setTier_21 rfl (lv_at hl 1 rfl) ?_
    obtain ⟨k11, hf⟩ := xk_of hf
    refine x_iald (n := 4) (f := ut) hc hw (ca_25 z9) k11 dX7_setTier_22 ?_
    refine lv_istore_n (lv' := [(3, .int (ut x1.toNatClampNeg)), (0, .ref (xAd κ 234)), (1, .int x1), (2, .int x2)]) hx hb dX7_setTier_23 rfl hl (by decide) rfl (fun ls hl => ?_)
    refine lv_aload_n hx hb dX7_setTier_24 rfl (lv_at hl 1 rfl) ?_
    refine x_get (v := .ref (xAd κ (26 * 0))) hc hw co_234 fX7_10 rfl dX7_setTier_25 ?_
    refine x_get (v := .ref (xAd κ (26 * 0 + 25))) hc hw (ca_0 z9) fX7_99 rfl dX7_setTier_28 ?_
    refine lv_iload_n hx hb dX7_setTier_31 rfl (lv_at hl 2 rfl) ?_
    refine lv_iload_n hx hb dX7_setTier_32 rfl (lv_at hl 3 rfl) ?_
    obtain ⟨k12, hf⟩ := xk_of hf
    refine x_iast (n := 4) (f := ut) (σ' := (upA uA_7 0 (uP, uC, uD, uJ, ur, (upd ut x1.toNatClampNeg x2), ud, ug), (uT0, uT1, uT2, uT3, uT4, uT5, uT6, uT7, uT8), (uG0, uG1, uG2), (uM0, uM1_8, uM2_9, uM3_4, uM4), wZ)) hc hw (ca_25 z9) k12 (sa_5_0 z9) dX7_setTier_33 (fun H locs hw => ?_)
    refine lv_iload_n hx hb dX7_setTier_34 rfl (lv_at hl 0 rfl) ?_
    cases hf
    exact K _ _ _ _ _ _ (by decide) (by decide) dX7_setTier_35 rfl rfl hw
def f_X7_faultOfQuestion (x0 : Int32) (x1 : Int32) (x2 : Int32) : Option Int32 :=
  if x0 = 0 then (some 7) else (xb1 (f_X7_isWithin x1 0 x2) fun v2 => (if v2 = 0 then (some 8) else (some 0)))
set_option maxHeartbeats 4000000 in
set_option maxRecDepth 100000 in
theorem m_X7_faultOfQuestion {l : Launch} {κ : xKt} {wS : sW}  {x0 : Int32} {x1 : Int32} {x2 : Int32} {rr : Int32} (hf : f_X7_faultOfQuestion x0 x1 x2 = some rr) : xMi l κ yX7_faultOfQuestion cX7_faultOfQuestion 3 (some .int) (xR 1 0 0) [.int x0, .int x1, .int x2] wS wS rr := by
  unfold f_X7_faultOfQuestion at hf
  refine xMi_of pn_X7 (Nat.le_of_ble_eq_true rfl) ⟨rfl, rfl⟩ ?_
  intro A p e s m args below meth c ls Q hc hw hl K
  have hc : xC κ A p s m args meth c cX7_faultOfQuestion RX7 3 (some .int) := hc
  have hx := hc.1.1
  have hb := hc.1.2.1
  have hl : lv_has ls 3 [(0, .int x0), (1, .int x1), (2, .int x2)] := hl
  refine lv_iload_n hx hb dX7_faultOfQuestion_0 rfl (lv_at hl 0 rfl) ?_
  refine lv_if_ne (tgt := 7) hx hb dX7_faultOfQuestion_1 (by decide) (fun c1 => ?_) (fun c1 => ?_)
  · have hf := xif_f c1 hf
    refine lv_iload_n hx hb dX7_faultOfQuestion_7 rfl (lv_at hl 1 rfl) ?_
    refine lv_iconst (v := 0) hx hb dX7_faultOfQuestion_8 (by decide) ?_
    refine lv_iload_n hx hb dX7_faultOfQuestion_9 rfl (lv_at hl 2 rfl) ?_
    obtain ⟨v2, h3, hf⟩ := xb1_of hf
    refine x_calliS (As := [.int x1, .int 0, .int x2]) (rest := []) (σ' := wS) hc hw hl.1 (m_X7_isWithin h3) kX7_70 rfl rfl ⟨rfl, rfl⟩ ⟨Nat.le_of_ble_eq_true rfl, Nat.le_of_ble_eq_true rfl⟩ ⟨Nat.zero_le _, Nat.zero_le _⟩ (Nat.le_of_ble_eq_true rfl) dX7_faultOfQuestion_10 (fun H locs hw => ?_)
    refine lv_if_eq (tgt := 20) hx hb dX7_faultOfQuestion_13 (by decide) (fun c4 => ?_) (fun c4 => ?_)
    · have hf := xif_t c4 hf
      refine lv_bipush (v := 8) hx hb dX7_faultOfQuestion_20 (by decide) ?_
      cases hf
      exact K _ _ _ _ dX7_faultOfQuestion_22 rfl hw
    · have hf := xif_f c4 hf
      refine lv_iconst (v := 0) hx hb dX7_faultOfQuestion_16 (by decide) ?_
      refine lv_goto (tgt := 22) hx hb dX7_faultOfQuestion_17 (by decide) ?_
      cases hf
      exact K _ _ _ _ dX7_faultOfQuestion_22 rfl hw
  · have hf := xif_t c1 hf
    refine lv_bipush (v := 7) hx hb dX7_faultOfQuestion_4 (by decide) ?_
    cases hf
    exact K _ _ _ _ dX7_faultOfQuestion_6 rfl hw
def f_X7_party (fu : Nat) (x1 : Int32) (x2 : Int32) (uP : sPar) (uC : sCla) (uD : sDeb) (ut : xF32) (uM3 : Int32) : Option (Nat × Int64 × Int32) :=
  xb1 (f_X4_has x1 uP) fun v1 => (xb1 (f_X7_faultOfQuestion v1 x2 10) fun v3 => (xb2 (f_X7_refuse v3 uM3) fun e5 uM3_6 => (if e5 = 0 then (xb1 (f_X0_numberOfParty fu x1 x2 uP uC uD ut) fun v9 => (some (0, v9, uM3_6))) else (some (e5, 0, uM3_6)))))
set_option maxHeartbeats 4000000 in
set_option maxRecDepth 100000 in
theorem m_X7_party {l : Launch} {κ : xKt} {wZ : sRef × sOut} {fu : Nat} {x1 : Int32} {x2 : Int32} {uA : Nat → sAcc} {uP : sPar} {uC : sCla} {uD : sDeb} {uJ : sJou} {ur : xF32} {ut : xF32} {ud : Int32} {ug : Int32} {uT0 : Int32} {uT1 : xF32} {uT2 : Int32} {uT3 : Int32} {uT4 : Int32} {uT5 : xF32} {uT6 : xF32} {uT7 : xF32} {uT8 : xF32} {uG0 : Int32} {uG1 : xF32} {uG2 : xF32} {uM0 : Int32} {uM1 : Int32} {uM2 : Int32} {uM3 : Int32} {uM4 : Int32} {ec : Nat} {rr : Int64} {yM3 : Int32} (hf : f_X7_party fu x1 x2 uP uC uD ut uM3 = some (ec, rr, yM3)) : xTl l κ yX7_party cX7_party 3 (some .long) (xR 6 1 6) [.ref (xAd κ 234), .int x1, .int x2] (upA uA 0 (uP, uC, uD, uJ, ur, ut, ud, ug), (uT0, uT1, uT2, uT3, uT4, uT5, uT6, uT7, uT8), (uG0, uG1, uG2), (uM0, uM1, uM2, uM3, uM4), wZ) (upA uA 0 (uP, uC, uD, uJ, ur, ut, ud, ug), (uT0, uT1, uT2, uT3, uT4, uT5, uT6, uT7, uT8), (uG0, uG1, uG2), (uM0, uM1, uM2, yM3, uM4), wZ) ec rr := by
  unfold f_X7_party at hf
  refine xTl_of pn_X7 (Nat.le_of_ble_eq_true rfl) ?_
  intro A p e s m args below meth c ls Q hlt hc hw hl K KX KO
  have hc : xC κ A p s m args meth c cX7_party RX7 3 (some .long) := hc
  have hx := hc.1.1
  have hb := hc.1.2.1
  have hl : lv_has ls 3 [(0, .ref (xAd κ 234)), (1, .int x1), (2, .int x2)] := hl
  refine lv_aload_n hx hb dX7_party_0 rfl (lv_at hl 0 rfl) ?_
  refine lv_aload_n hx hb dX7_party_1 rfl (lv_at hl 0 rfl) ?_
  refine x_get (v := .ref (xAd κ (26 * 0))) hc hw co_234 fX7_10 rfl dX7_party_2 ?_
  refine x_get (v := .ref (xAd κ (26 * 0 + 1))) hc hw (ca_0 z9) fX7_54 rfl dX7_party_5 ?_
  refine lv_iload_n hx hb dX7_party_8 rfl (lv_at hl 1 rfl) ?_
  obtain ⟨v1, h2, hf⟩ := xb1_of hf
  refine x_calliV (As := [.int x1]) (rest := [.ref (xAd κ 234)]) (σ' := (upA uA 0 (uP, uC, uD, uJ, ur, ut, ud, ug), (uT0, uT1, uT2, uT3, uT4, uT5, uT6, uT7, uT8), (uG0, uG1, uG2), (uM0, uM1, uM2, uM3, uM4), wZ)) hc hw hl.1 (m_X4_has z9 h2) kX7_102 (ca_1 z9) rfl rfl ⟨rfl, rfl⟩ ⟨Nat.le_of_ble_eq_true rfl, Nat.le_of_ble_eq_true rfl⟩ ⟨Nat.zero_le _, Nat.zero_le _⟩ (Nat.le_of_ble_eq_true rfl) dX7_party_9 (fun H locs hw => ?_)
  refine lv_iload_n hx hb dX7_party_12 rfl (lv_at hl 2 rfl) ?_
  refine lv_bipush (v := 10) hx hb dX7_party_13 (by decide) ?_
  obtain ⟨v3, h4, hf⟩ := xb1_of hf
  refine x_calliS (As := [.int v1, .int x2, .int 10]) (rest := [.ref (xAd κ 234)]) (σ' := (upA uA 0 (uP, uC, uD, uJ, ur, ut, ud, ug), (uT0, uT1, uT2, uT3, uT4, uT5, uT6, uT7, uT8), (uG0, uG1, uG2), (uM0, uM1, uM2, uM3, uM4), wZ)) hc hw hl.1 (m_X7_faultOfQuestion h4) kX7_105 rfl rfl ⟨rfl, rfl⟩ ⟨Nat.le_of_ble_eq_true rfl, Nat.le_of_ble_eq_true rfl⟩ ⟨Nat.zero_le _, Nat.zero_le _⟩ (Nat.le_of_ble_eq_true rfl) dX7_party_15 (fun H locs hw => ?_)
  obtain ⟨e5, uM3_6, h7, hf⟩ := xb2_of hf
  refine x_tcallvV (As := [.int v3]) (rest := []) (σ' := (upA uA 0 (uP, uC, uD, uJ, ur, ut, ud, ug), (uT0, uT1, uT2, uT3, uT4, uT5, uT6, uT7, uT8), (uG0, uG1, uG2), (uM0, uM1, uM2, uM3_6, uM4), wZ)) hc hw hl.1 hlt (m_X7_refuse h7) kX7_91 co_234 rfl rfl ⟨rfl, rfl⟩ ⟨Nat.le_of_ble_eq_true rfl, Nat.le_of_ble_eq_true rfl⟩ ⟨Nat.le_of_ble_eq_true rfl, Nat.le_of_ble_eq_true rfl⟩ (Nat.le_of_ble_eq_true rfl) dX7_party_18 (fun c8 H locs q ce hw q1 q2 q3 => ?_) (fun c8 H locs hw => ?_)
  · have hf := xif_f c8 hf
    cases hf
    exact KO _ _ _ _ _ _ _ _ _ (Nat.le_refl _) (Nat.le_refl _) c8 hw q1 q2 q3
  · have hf := xif_t c8 hf
    refine lv_aload_n hx hb dX7_party_21 rfl (lv_at hl 0 rfl) ?_
    refine x_get (v := .ref (xAd κ (26 * 0))) hc hw co_234 fX7_10 rfl dX7_party_22 ?_
    refine lv_iload_n hx hb dX7_party_25 rfl (lv_at hl 1 rfl) ?_
    refine lv_iload_n hx hb dX7_party_26 rfl (lv_at hl 2 rfl) ?_
    obtain ⟨v9, h10, hf⟩ := xb1_of hf
    refine x_calllV (As := [.int x1, .int x2]) (rest := []) (σ' := (upA uA 0 (uP, uC, uD, uJ, ur, ut, ud, ug), (uT0, uT1, uT2, uT3, uT4, uT5, uT6, uT7, uT8), (uG0, uG1, uG2), (uM0, uM1, uM2, uM3_6, uM4), wZ)) hc hw hl.1 (m_X0_numberOfParty z9 h10) kX7_109 (ca_0 z9) rfl rfl ⟨rfl, rfl⟩ ⟨Nat.le_of_ble_eq_true rfl, Nat.le_of_ble_eq_true rfl⟩ ⟨Nat.le_of_ble_eq_true rfl, Nat.le_of_ble_eq_true rfl⟩ (Nat.le_of_ble_eq_true rfl) dX7_party_27 (fun H locs hw => ?_)
    cases hf
    exact K _ _ _ _ _ _ (by decide) (by decide) dX7_party_30 rfl hw
def f_X7_claim (x1 : Int32) (x2 : Int32) (x3 : Int32) (uA : Nat → sAcc) (uP : sPar) (uC : sCla) (uD : sDeb) (uJ : sJou) (ur : xF32) (ut : xF32) (ud : Int32) (ug : Int32) (uM1 : Int32) (uM2 : Int32) (uM3 : Int32) : Option (Nat × Int32 × (Nat → sAcc) × sCla × Int32 × Int32 × Int32) :=
  xb1 (f_X0_faultOfClaim x1 x2 x3 uP uC ug) fun v1 => (xb2 (f_X7_refuse v1 uM3) fun e3 uM3_4 => (if e3 = 0 then (xb3 (f_X7_remember uA uP uC uD uJ ur ut ud ug uM1 uM2) fun uA_7 uM1_8 uM2_9 => (xb2 (f_X1_addOne x1 x2 x3 uC) fun v11 uC_12 => (some (0, v11, uA_7, uC_12, uM1_8, uM2_9, uM3_4)))) else (some (e3, 0, uA, uC, uM1, uM2, uM3_4))))
set_option maxHeartbeats 4000000 in
set_option maxRecDepth 100000 in
theorem m_X7_claim {l : Launch} {κ : xKt} {wZ : sRef × sOut}  {x1 : Int32} {x2 : Int32} {x3 : Int32} {uA : Nat → sAcc} {uP : sPar} {uC : sCla} {uD : sDeb} {uJ : sJou} {ur : xF32} {ut : xF32} {ud : Int32} {ug : Int32} {uT0 : Int32} {uT1 : xF32} {uT2 : Int32} {uT3 : Int32} {uT4 : Int32} {uT5 : xF32} {uT6 : xF32} {uT7 : xF32} {uT8 : xF32} {uG0 : Int32} {uG1 : xF32} {uG2 : xF32} {uM0 : Int32} {uM1 : Int32} {uM2 : Int32} {uM3 : Int32} {uM4 : Int32} {ec : Nat} {rr : Int32} {yA : Nat → sAcc} {yC : sCla} {yM1 : Int32} {yM2 : Int32} {yM3 : Int32} (hf : f_X7_claim x1 x2 x3 uA uP uC uD uJ ur ut ud ug uM1 uM2 uM3 = some (ec, rr, yA, yC, yM1, yM2, yM3)) : xTi l κ yX7_claim cX7_claim 4 (some .int) (xR 3 1 6) [.ref (xAd κ 234), .int x1, .int x2, .int x3] (upA uA 0 (uP, uC, uD, uJ, ur, ut, ud, ug), (uT0, uT1, uT2, uT3, uT4, uT5, uT6, uT7, uT8), (uG0, uG1, uG2), (uM0, uM1, uM2, uM3, uM4), wZ) (upA yA 0 (uP, yC, uD, uJ, ur, ut, ud, ug), (uT0, uT1, uT2, uT3, uT4, uT5, uT6, uT7, uT8), (uG0, uG1, uG2), (uM0, yM1, yM2, yM3, uM4), wZ) ec rr := by
  unfold f_X7_claim at hf
  refine xTi_of pn_X7 (Nat.le_of_ble_eq_true rfl) ?_
  intro A p e s m args below meth c ls Q hlt hc hw hl K KX KO
  have hc : xC κ A p s m args meth c cX7_claim RX7 4 (some .int) := hc
  have hx := hc.1.1
  have hb := hc.1.2.1
  have hl : lv_has ls 4 [(0, .ref (xAd κ 234)), (1, .int x1), (2, .int x2), (3, .int x3)] := hl
  refine lv_aload_n hx hb dX7_claim_0 rfl (lv_at hl 0 rfl) ?_
  refine lv_aload_n hx hb dX7_claim_1 rfl (lv_at hl 0 rfl) ?_
  refine x_get (v := .ref (xAd κ (26 * 0))) hc hw co_234 fX7_10 rfl dX7_claim_2 ?_
  refine lv_iload_n hx hb dX7_claim_5 rfl (lv_at hl 1 rfl) ?_
  refine lv_iload_n hx hb dX7_claim_6 rfl (lv_at hl 2 rfl) ?_
  refine lv_iload_n hx hb dX7_claim_7 rfl (lv_at hl 3 rfl) ?_
  obtain ⟨v1, h2, hf⟩ := xb1_of hf
  refine x_calliV (As := [.int x1, .int x2, .int x3]) (rest := [.ref (xAd κ 234)]) (σ' := (upA uA 0 (uP, uC, uD, uJ, ur, ut, ud, ug), (uT0, uT1, uT2, uT3, uT4, uT5, uT6, uT7, uT8), (uG0, uG1, uG2), (uM0, uM1, uM2, uM3, uM4), wZ)) hc hw hl.1 (m_X0_faultOfClaim z9 h2) kX7_113 (ca_0 z9) rfl rfl ⟨rfl, rfl⟩ ⟨Nat.le_of_ble_eq_true rfl, Nat.le_of_ble_eq_true rfl⟩ ⟨Nat.zero_le _, Nat.zero_le _⟩ (Nat.le_of_ble_eq_true rfl) dX7_claim_8 (fun H locs hw => ?_)
  obtain ⟨e3, uM3_4, h5, hf⟩ := xb2_of hf
  refine x_tcallvV (As := [.int v1]) (rest := []) (σ' := (upA uA 0 (uP, uC, uD, uJ, ur, ut, ud, ug), (uT0, uT1, uT2, uT3, uT4, uT5, uT6, uT7, uT8), (uG0, uG1, uG2), (uM0, uM1, uM2, uM3_4, uM4), wZ)) hc hw hl.1 hlt (m_X7_refuse h5) kX7_91 co_234 rfl rfl ⟨rfl, rfl⟩ ⟨Nat.le_of_ble_eq_true rfl, Nat.le_of_ble_eq_true rfl⟩ ⟨Nat.le_of_ble_eq_true rfl, Nat.le_of_ble_eq_true rfl⟩ (Nat.le_of_ble_eq_true rfl) dX7_claim_11 (fun c6 H locs q ce hw q1 q2 q3 => ?_) (fun c6 H locs hw => ?_)
  · have hf := xif_f c6 hf
    cases hf
    exact KO _ _ _ _ _ _ _ _ _ (Nat.le_refl _) (Nat.le_refl _) c6 hw q1 q2 q3
  · have hf := xif_t c6 hf
    refine lv_aload_n hx hb dX7_claim_14 rfl (lv_at hl 0 rfl) ?_
    obtain ⟨uA_7, uM1_8, uM2_9, h10, hf⟩ := xb3_of hf
    refine x_callvV (As := []) (rest := []) (σ' := (upA uA_7 0 (uP, uC, uD, uJ, ur, ut, ud, ug), (uT0, uT1, uT2, uT3, uT4, uT5, uT6, uT7, uT8), (uG0, uG1, uG2), (uM0, uM1_8, uM2_9, uM3_4, uM4), wZ)) hc hw hl.1 (m_X7_remember h10) kX7_80 co_234 rfl rfl ⟨rfl, rfl⟩ ⟨Nat.le_of_ble_eq_true rfl, Nat.le_of_ble_eq_true rfl⟩ ⟨Nat.le_of_ble_eq_true rfl, Nat.le_of_ble_eq_true rfl⟩ (Nat.le_of_ble_eq_true rfl) dX7_claim_15 (fun H locs hw => ?_)
    refine lv_aload_n hx hb dX7_claim_18 rfl (lv_at hl 0 rfl) ?_
    refine x_get (v := .ref (xAd κ (26 * 0))) hc hw co_234 fX7_10 rfl dX7_claim_19 ?_
    refine x_get (v := .ref (xAd κ (26 * 0 + 8))) hc hw (ca_0 z9) fX7_116 rfl dX7_claim_22 ?_
    refine lv_iload_n hx hb dX7_claim_25 rfl (lv_at hl 1 rfl) ?_
    refine lv_iload_n hx hb dX7_claim_26 rfl (lv_at hl 2 rfl) ?_
    refine lv_iload_n hx hb dX7_claim_27 rfl (lv_at hl 3 rfl) ?_
    obtain ⟨v11, uC_12, h13, hf⟩ := xb2_of hf
    refine x_calliV (As := [.int x1, .int x2, .int x3]) (rest := []) (σ' := (upA uA_7 0 (uP, uC_12, uD, uJ, ur, ut, ud, ug), (uT0, uT1, uT2, uT3, uT4, uT5, uT6, uT7, uT8), (uG0, uG1, uG2), (uM0, uM1_8, uM2_9, uM3_4, uM4), wZ)) hc hw hl.1 (m_X1_addOne z9 h13) kX7_120 (ca_8 z9) rfl rfl ⟨rfl, rfl⟩ ⟨Nat.le_of_ble_eq_true rfl, Nat.le_of_ble_eq_true rfl⟩ ⟨Nat.le_of_ble_eq_true rfl, Nat.le_of_ble_eq_true rfl⟩ (Nat.le_of_ble_eq_true rfl) dX7_claim_28 (fun H locs hw => ?_)
    cases hf
    exact K _ _ _ _ _ _ (by decide) (by decide) dX7_claim_31 rfl rfl hw
def f_X7_award (fu : Nat) (x1 : Int32) (x2 : Int32) (uA : Nat → sAcc) (uP : sPar) (uC : sCla) (uD : sDeb) (uJ : sJou) (ur : xF32) (ut : xF32) (ud : Int32) (ug : Int32) (uM1 : Int32) (uM2 : Int32) (uM3 : Int32) : Option (Nat × Int32 × (Nat → sAcc) × sCla × sDeb × sJou × Int32 × Int32 × Int32) :=
  xb1 (f_X0_faultOfRuling x1 x2 uC ug) fun v1 => (xb2 (f_X7_refuse v1 uM3) fun e3 uM3_4 => (if e3 = 0 then (xb3 (f_X7_remember uA uP uC uD uJ ur ut ud ug uM1 uM2) fun uA_7 uM1_8 uM2_9 => (xb3 (f_X0_makeAward fu x1 x2 uC uD uJ) fun uC_11 uD_12 uJ_13 => (xb1 (f_X1_leftOf x1 uC_11) fun v15 => (some (0, v15, uA_7, uC_11, uD_12, uJ_13, uM1_8, uM2_9, uM3_4))))) else (some (e3, 0, uA, uC, uD, uJ, uM1, uM2, uM3_4))))
set_option maxHeartbeats 4000000 in
set_option maxRecDepth 100000 in
theorem m_X7_award {l : Launch} {κ : xKt} {wZ : sRef × sOut} {fu : Nat} {x1 : Int32} {x2 : Int32} {uA : Nat → sAcc} {uP : sPar} {uC : sCla} {uD : sDeb} {uJ : sJou} {ur : xF32} {ut : xF32} {ud : Int32} {ug : Int32} {uT0 : Int32} {uT1 : xF32} {uT2 : Int32} {uT3 : Int32} {uT4 : Int32} {uT5 : xF32} {uT6 : xF32} {uT7 : xF32} {uT8 : xF32} {uG0 : Int32} {uG1 : xF32} {uG2 : xF32} {uM0 : Int32} {uM1 : Int32} {uM2 : Int32} {uM3 : Int32} {uM4 : Int32} {ec : Nat} {rr : Int32} {yA : Nat → sAcc} {yC : sCla} {yD : sDeb} {yJ : sJou} {yM1 : Int32} {yM2 : Int32} {yM3 : Int32} (hf : f_X7_award fu x1 x2 uA uP uC uD uJ ur ut ud ug uM1 uM2 uM3 = some (ec, rr, yA, yC, yD, yJ, yM1, yM2, yM3)) : xTi l κ yX7_award cX7_award 3 (some .int) (xR 3 1 6) [.ref (xAd κ 234), .int x1, .int x2] (upA uA 0 (uP, uC, uD, uJ, ur, ut, ud, ug), (uT0, uT1, uT2, uT3, uT4, uT5, uT6, uT7, uT8), (uG0, uG1, uG2), (uM0, uM1, uM2, uM3, uM4), wZ) (upA yA 0 (uP, yC, yD, yJ, ur, ut, ud, ug), (uT0, uT1, uT2, uT3, uT4, uT5, uT6, uT7, uT8), (uG0, uG1, uG2), (uM0, yM1, yM2, yM3, uM4), wZ) ec rr := by
  unfold f_X7_award at hf
  refine xTi_of pn_X7 (Nat.le_of_ble_eq_true rfl) ?_
  intro A p e s m args below meth c ls Q hlt hc hw hl K KX KO
  have hc : xC κ A p s m args meth c cX7_award RX7 3 (some .int) := hc
  have hx := hc.1.1
  have hb := hc.1.2.1
  have hl : lv_has ls 3 [(0, .ref (xAd κ 234)), (1, .int x1), (2, .int x2)] := hl
  refine lv_aload_n hx hb dX7_award_0 rfl (lv_at hl 0 rfl) ?_
  refine lv_aload_n hx hb dX7_award_1 rfl (lv_at hl 0 rfl) ?_
  refine x_get (v := .ref (xAd κ (26 * 0))) hc hw co_234 fX7_10 rfl dX7_award_2 ?_
  refine lv_iload_n hx hb dX7_award_5 rfl (lv_at hl 1 rfl) ?_
  refine lv_iload_n hx hb dX7_award_6 rfl (lv_at hl 2 rfl) ?_
  obtain ⟨v1, h2, hf⟩ := xb1_of hf
  refine x_calliV (As := [.int x1, .int x2]) (rest := [.ref (xAd κ 234)]) (σ' := (upA uA 0 (uP, uC, uD, uJ, ur, ut, ud, ug), (uT0, uT1, uT2, uT3, uT4, uT5, uT6, uT7, uT8), (uG0, uG1, uG2), (uM0, uM1, uM2, uM3, uM4), wZ)) hc hw hl.1 (m_X0_faultOfRuling z9 h2) kX7_124 (ca_0 z9) rfl rfl ⟨rfl, rfl⟩ ⟨Nat.le_of_ble_eq_true rfl, Nat.le_of_ble_eq_true rfl⟩ ⟨Nat.zero_le _, Nat.zero_le _⟩ (Nat.le_of_ble_eq_true rfl) dX7_award_7 (fun H locs hw => ?_)
  obtain ⟨e3, uM3_4, h5, hf⟩ := xb2_of hf
  refine x_tcallvV (As := [.int v1]) (rest := []) (σ' := (upA uA 0 (uP, uC, uD, uJ, ur, ut, ud, ug), (uT0, uT1, uT2, uT3, uT4, uT5, uT6, uT7, uT8), (uG0, uG1, uG2), (uM0, uM1, uM2, uM3_4, uM4), wZ)) hc hw hl.1 hlt (m_X7_refuse h5) kX7_91 co_234 rfl rfl ⟨rfl, rfl⟩ ⟨Nat.le_of_ble_eq_true rfl, Nat.le_of_ble_eq_true rfl⟩ ⟨Nat.le_of_ble_eq_true rfl, Nat.le_of_ble_eq_true rfl⟩ (Nat.le_of_ble_eq_true rfl) dX7_award_10 (fun c6 H locs q ce hw q1 q2 q3 => ?_) (fun c6 H locs hw => ?_)
  · have hf := xif_f c6 hf
    cases hf
    exact KO _ _ _ _ _ _ _ _ _ (Nat.le_refl _) (Nat.le_refl _) c6 hw q1 q2 q3
  · have hf := xif_t c6 hf
    refine lv_aload_n hx hb dX7_award_13 rfl (lv_at hl 0 rfl) ?_
    obtain ⟨uA_7, uM1_8, uM2_9, h10, hf⟩ := xb3_of hf
    refine x_callvV (As := []) (rest := []) (σ' := (upA uA_7 0 (uP, uC, uD, uJ, ur, ut, ud, ug), (uT0, uT1, uT2, uT3, uT4, uT5, uT6, uT7, uT8), (uG0, uG1, uG2), (uM0, uM1_8, uM2_9, uM3_4, uM4), wZ)) hc hw hl.1 (m_X7_remember h10) kX7_80 co_234 rfl rfl ⟨rfl, rfl⟩ ⟨Nat.le_of_ble_eq_true rfl, Nat.le_of_ble_eq_true rfl⟩ ⟨Nat.le_of_ble_eq_true rfl, Nat.le_of_ble_eq_true rfl⟩ (Nat.le_of_ble_eq_true rfl) dX7_award_14 (fun H locs hw => ?_)
    refine lv_aload_n hx hb dX7_award_17 rfl (lv_at hl 0 rfl) ?_
    refine x_get (v := .ref (xAd κ (26 * 0))) hc hw co_234 fX7_10 rfl dX7_award_18 ?_
    refine lv_iload_n hx hb dX7_award_21 rfl (lv_at hl 1 rfl) ?_
    refine lv_iload_n hx hb dX7_award_22 rfl (lv_at hl 2 rfl) ?_
    obtain ⟨uC_11, uD_12, uJ_13, h14, hf⟩ := xb3_of hf
    refine x_callvV (As := [.int x1, .int x2]) (rest := []) (σ' := (upA uA_7 0 (uP, uC_11, uD_12, uJ_13, ur, ut, ud, ug), (uT0, uT1, uT2, uT3, uT4, uT5, uT6, uT7, uT8), (uG0, uG1, uG2), (uM0, uM1_8, uM2_9, uM3_4, uM4), wZ)) hc hw hl.1 (m_X0_makeAward z9 h14) kX7_127 (ca_0 z9) rfl rfl ⟨rfl, rfl⟩ ⟨Nat.le_of_ble_eq_true rfl, Nat.le_of_ble_eq_true rfl⟩ ⟨Nat.le_of_ble_eq_true rfl, Nat.le_of_ble_eq_true rfl⟩ (Nat.le_of_ble_eq_true rfl) dX7_award_23 (fun H locs hw => ?_)
    refine lv_aload_n hx hb dX7_award_26 rfl (lv_at hl 0 rfl) ?_
    refine x_get (v := .ref (xAd κ (26 * 0))) hc hw co_234 fX7_10 rfl dX7_award_27 ?_
    refine x_get (v := .ref (xAd κ (26 * 0 + 8))) hc hw (ca_0 z9) fX7_116 rfl dX7_award_30 ?_
    refine lv_iload_n hx hb dX7_award_33 rfl (lv_at hl 1 rfl) ?_
    obtain ⟨v15, h16, hf⟩ := xb1_of hf
    refine x_calliV (As := [.int x1]) (rest := []) (σ' := (upA uA_7 0 (uP, uC_11, uD_12, uJ_13, ur, ut, ud, ug), (uT0, uT1, uT2, uT3, uT4, uT5, uT6, uT7, uT8), (uG0, uG1, uG2), (uM0, uM1_8, uM2_9, uM3_4, uM4), wZ)) hc hw hl.1 (m_X1_leftOf z9 h16) kX7_131 (ca_8 z9) rfl rfl ⟨rfl, rfl⟩ ⟨Nat.le_of_ble_eq_true rfl, Nat.le_of_ble_eq_true rfl⟩ ⟨Nat.le_of_ble_eq_true rfl, Nat.le_of_ble_eq_true rfl⟩ (Nat.le_of_ble_eq_true rfl) dX7_award_34 (fun H locs hw => ?_)
    cases hf
    exact K _ _ _ _ _ _ (by decide) (by decide) dX7_award_37 rfl rfl hw
def f_X7_dismiss (fu : Nat) (x1 : Int32) (x2 : Int32) (uA : Nat → sAcc) (uP : sPar) (uC : sCla) (uD : sDeb) (uJ : sJou) (ur : xF32) (ut : xF32) (ud : Int32) (ug : Int32) (uM1 : Int32) (uM2 : Int32) (uM3 : Int32) : Option (Nat × Int32 × (Nat → sAcc) × sCla × sJou × Int32 × Int32 × Int32) :=
  xb1 (f_X0_faultOfRuling x1 x2 uC ug) fun v1 => (xb2 (f_X7_refuse v1 uM3) fun e3 uM3_4 => (if e3 = 0 then (xb3 (f_X7_remember uA uP uC uD uJ ur ut ud ug uM1 uM2) fun uA_7 uM1_8 uM2_9 => (xb2 (f_X0_makeDismissal fu x1 x2 uC uJ) fun uC_11 uJ_12 => (xb1 (f_X1_leftOf x1 uC_11) fun v14 => (some (0, v14, uA_7, uC_11, uJ_12, uM1_8, uM2_9, uM3_4))))) else (some (e3, 0, uA, uC, uJ, uM1, uM2, uM3_4))))
set_option maxHeartbeats 4000000 in
set_option maxRecDepth 100000 in
theorem m_X7_dismiss {l : Launch} {κ : xKt} {wZ : sRef × sOut} {fu : Nat} {x1 : Int32} {x2 : Int32} {uA : Nat → sAcc} {uP : sPar} {uC : sCla} {uD : sDeb} {uJ : sJou} {ur : xF32} {ut : xF32} {ud : Int32} {ug : Int32} {uT0 : Int32} {uT1 : xF32} {uT2 : Int32} {uT3 : Int32} {uT4 : Int32} {uT5 : xF32} {uT6 : xF32} {uT7 : xF32} {uT8 : xF32} {uG0 : Int32} {uG1 : xF32} {uG2 : xF32} {uM0 : Int32} {uM1 : Int32} {uM2 : Int32} {uM3 : Int32} {uM4 : Int32} {ec : Nat} {rr : Int32} {yA : Nat → sAcc} {yC : sCla} {yJ : sJou} {yM1 : Int32} {yM2 : Int32} {yM3 : Int32} (hf : f_X7_dismiss fu x1 x2 uA uP uC uD uJ ur ut ud ug uM1 uM2 uM3 = some (ec, rr, yA, yC, yJ, yM1, yM2, yM3)) : xTi l κ yX7_dismiss cX7_dismiss 3 (some .int) (xR 3 1 6) [.ref (xAd κ 234), .int x1, .int x2] (upA uA 0 (uP, uC, uD, uJ, ur, ut, ud, ug), (uT0, uT1, uT2, uT3, uT4, uT5, uT6, uT7, uT8), (uG0, uG1, uG2), (uM0, uM1, uM2, uM3, uM4), wZ) (upA yA 0 (uP, yC, uD, yJ, ur, ut, ud, ug), (uT0, uT1, uT2, uT3, uT4, uT5, uT6, uT7, uT8), (uG0, uG1, uG2), (uM0, yM1, yM2, yM3, uM4), wZ) ec rr := by
  unfold f_X7_dismiss at hf
  refine xTi_of pn_X7 (Nat.le_of_ble_eq_true rfl) ?_
  intro A p e s m args below meth c ls Q hlt hc hw hl K KX KO
  have hc : xC κ A p s m args meth c cX7_dismiss RX7 3 (some .int) := hc
  have hx := hc.1.1
  have hb := hc.1.2.1
  have hl : lv_has ls 3 [(0, .ref (xAd κ 234)), (1, .int x1), (2, .int x2)] := hl
  refine lv_aload_n hx hb dX7_dismiss_0 rfl (lv_at hl 0 rfl) ?_
  refine lv_aload_n hx hb dX7_dismiss_1 rfl (lv_at hl 0 rfl) ?_
  refine x_get (v := .ref (xAd κ (26 * 0))) hc hw co_234 fX7_10 rfl dX7_dismiss_2 ?_
  refine lv_iload_n hx hb dX7_dismiss_5 rfl (lv_at hl 1 rfl) ?_
  refine lv_iload_n hx hb dX7_dismiss_6 rfl (lv_at hl 2 rfl) ?_
  obtain ⟨v1, h2, hf⟩ := xb1_of hf
  refine x_calliV (As := [.int x1, .int x2]) (rest := [.ref (xAd κ 234)]) (σ' := (upA uA 0 (uP, uC, uD, uJ, ur, ut, ud, ug), (uT0, uT1, uT2, uT3, uT4, uT5, uT6, uT7, uT8), (uG0, uG1, uG2), (uM0, uM1, uM2, uM3, uM4), wZ)) hc hw hl.1 (m_X0_faultOfRuling z9 h2) kX7_124 (ca_0 z9) rfl rfl ⟨rfl, rfl⟩ ⟨Nat.le_of_ble_eq_true rfl, Nat.le_of_ble_eq_true rfl⟩ ⟨Nat.zero_le _, Nat.zero_le _⟩ (Nat.le_of_ble_eq_true rfl) dX7_dismiss_7 (fun H locs hw => ?_)
  obtain ⟨e3, uM3_4, h5, hf⟩ := xb2_of hf
  refine x_tcallvV (As := [.int v1]) (rest := []) (σ' := (upA uA 0 (uP, uC, uD, uJ, ur, ut, ud, ug), (uT0, uT1, uT2, uT3, uT4, uT5, uT6, uT7, uT8), (uG0, uG1, uG2), (uM0, uM1, uM2, uM3_4, uM4), wZ)) hc hw hl.1 hlt (m_X7_refuse h5) kX7_91 co_234 rfl rfl ⟨rfl, rfl⟩ ⟨Nat.le_of_ble_eq_true rfl, Nat.le_of_ble_eq_true rfl⟩ ⟨Nat.le_of_ble_eq_true rfl, Nat.le_of_ble_eq_true rfl⟩ (Nat.le_of_ble_eq_true rfl) dX7_dismiss_10 (fun c6 H locs q ce hw q1 q2 q3 => ?_) (fun c6 H locs hw => ?_)
  · have hf := xif_f c6 hf
    cases hf
    exact KO _ _ _ _ _ _ _ _ _ (Nat.le_refl _) (Nat.le_refl _) c6 hw q1 q2 q3
  · have hf := xif_t c6 hf
    refine lv_aload_n hx hb dX7_dismiss_13 rfl (lv_at hl 0 rfl) ?_
    obtain ⟨uA_7, uM1_8, uM2_9, h10, hf⟩ := xb3_of hf
    refine x_callvV (As := []) (rest := []) (σ' := (upA uA_7 0 (uP, uC, uD, uJ, ur, ut, ud, ug), (uT0, uT1, uT2, uT3, uT4, uT5, uT6, uT7, uT8), (uG0, uG1, uG2), (uM0, uM1_8, uM2_9, uM3_4, uM4), wZ)) hc hw hl.1 (m_X7_remember h10) kX7_80 co_234 rfl rfl ⟨rfl, rfl⟩ ⟨Nat.le_of_ble_eq_true rfl, Nat.le_of_ble_eq_true rfl⟩ ⟨Nat.le_of_ble_eq_true rfl, Nat.le_of_ble_eq_true rfl⟩ (Nat.le_of_ble_eq_true rfl) dX7_dismiss_14 (fun H locs hw => ?_)
    refine lv_aload_n hx hb dX7_dismiss_17 rfl (lv_at hl 0 rfl) ?_
    refine x_get (v := .ref (xAd κ (26 * 0))) hc hw co_234 fX7_10 rfl dX7_dismiss_18 ?_
    refine lv_iload_n hx hb dX7_dismiss_21 rfl (lv_at hl 1 rfl) ?_
    refine lv_iload_n hx hb dX7_dismiss_22 rfl (lv_at hl 2 rfl) ?_
    obtain ⟨uC_11, uJ_12, h13, hf⟩ := xb2_of hf
    refine x_callvV (As := [.int x1, .int x2]) (rest := []) (σ' := (upA uA_7 0 (uP, uC_11, uD, uJ_12, ur, ut, ud, ug), (uT0, uT1, uT2, uT3, uT4, uT5, uT6, uT7, uT8), (uG0, uG1, uG2), (uM0, uM1_8, uM2_9, uM3_4, uM4), wZ)) hc hw hl.1 (m_X0_makeDismissal z9 h13) kX7_135 (ca_0 z9) rfl rfl ⟨rfl, rfl⟩ ⟨Nat.le_of_ble_eq_true rfl, Nat.le_of_ble_eq_true rfl⟩ ⟨Nat.le_of_ble_eq_true rfl, Nat.le_of_ble_eq_true rfl⟩ (Nat.le_of_ble_eq_true rfl) dX7_dismiss_23 (fun H locs hw => ?_)
    refine lv_aload_n hx hb dX7_dismiss_26 rfl (lv_at hl 0 rfl) ?_
    refine x_get (v := .ref (xAd κ (26 * 0))) hc hw co_234 fX7_10 rfl dX7_dismiss_27 ?_
    refine x_get (v := .ref (xAd κ (26 * 0 + 8))) hc hw (ca_0 z9) fX7_116 rfl dX7_dismiss_30 ?_
    refine lv_iload_n hx hb dX7_dismiss_33 rfl (lv_at hl 1 rfl) ?_
    obtain ⟨v14, h15, hf⟩ := xb1_of hf
    refine x_calliV (As := [.int x1]) (rest := []) (σ' := (upA uA_7 0 (uP, uC_11, uD, uJ_12, ur, ut, ud, ug), (uT0, uT1, uT2, uT3, uT4, uT5, uT6, uT7, uT8), (uG0, uG1, uG2), (uM0, uM1_8, uM2_9, uM3_4, uM4), wZ)) hc hw hl.1 (m_X1_leftOf z9 h15) kX7_131 (ca_8 z9) rfl rfl ⟨rfl, rfl⟩ ⟨Nat.le_of_ble_eq_true rfl, Nat.le_of_ble_eq_true rfl⟩ ⟨Nat.le_of_ble_eq_true rfl, Nat.le_of_ble_eq_true rfl⟩ (Nat.le_of_ble_eq_true rfl) dX7_dismiss_34 (fun H locs hw => ?_)
    cases hf
    exact K _ _ _ _ _ _ (by decide) (by decide) dX7_dismiss_37 rfl rfl hw
def f_X7_withdraw (fu : Nat) (x1 : Int32) (x2 : Int32) (uA : Nat → sAcc) (uP : sPar) (uC : sCla) (uD : sDeb) (uJ : sJou) (ur : xF32) (ut : xF32) (ud : Int32) (ug : Int32) (uM1 : Int32) (uM2 : Int32) (uM3 : Int32) : Option (Nat × Int32 × (Nat → sAcc) × sCla × sJou × Int32 × Int32 × Int32) :=
  xb1 (f_X0_faultOfWithdrawal x1 x2 uC ug) fun v1 => (xb2 (f_X7_refuse v1 uM3) fun e3 uM3_4 => (if e3 = 0 then (xb3 (f_X7_remember uA uP uC uD uJ ur ut ud ug uM1 uM2) fun uA_7 uM1_8 uM2_9 => (xb2 (f_X0_makeWithdrawal fu x1 x2 uC uJ) fun uC_11 uJ_12 => (xb1 (f_X1_leftOf x1 uC_11) fun v14 => (some (0, v14, uA_7, uC_11, uJ_12, uM1_8, uM2_9, uM3_4))))) else (some (e3, 0, uA, uC, uJ, uM1, uM2, uM3_4))))
set_option maxHeartbeats 4000000 in
set_option maxRecDepth 100000 in
theorem m_X7_withdraw {l : Launch} {κ : xKt} {wZ : sRef × sOut} {fu : Nat} {x1 : Int32} {x2 : Int32} {uA : Nat → sAcc} {uP : sPar} {uC : sCla} {uD : sDeb} {uJ : sJou} {ur : xF32} {ut : xF32} {ud : Int32} {ug : Int32} {uT0 : Int32} {uT1 : xF32} {uT2 : Int32} {uT3 : Int32} {uT4 : Int32} {uT5 : xF32} {uT6 : xF32} {uT7 : xF32} {uT8 : xF32} {uG0 : Int32} {uG1 : xF32} {uG2 : xF32} {uM0 : Int32} {uM1 : Int32} {uM2 : Int32} {uM3 : Int32} {uM4 : Int32} {ec : Nat} {rr : Int32} {yA : Nat → sAcc} {yC : sCla} {yJ : sJou} {yM1 : Int32} {yM2 : Int32} {yM3 : Int32} (hf : f_X7_withdraw fu x1 x2 uA uP uC uD uJ ur ut ud ug uM1 uM2 uM3 = some (ec, rr, yA, yC, yJ, yM1, yM2, yM3)) : xTi l κ yX7_withdraw cX7_withdraw 3 (some .int) (xR 3 1 6) [.ref (xAd κ 234), .int x1, .int x2] (upA uA 0 (uP, uC, uD, uJ, ur, ut, ud, ug), (uT0, uT1, uT2, uT3, uT4, uT5, uT6, uT7, uT8), (uG0, uG1, uG2), (uM0, uM1, uM2, uM3, uM4), wZ) (upA yA 0 (uP, yC, uD, yJ, ur, ut, ud, ug), (uT0, uT1, uT2, uT3, uT4, uT5, uT6, uT7, uT8), (uG0, uG1, uG2), (uM0, yM1, yM2, yM3, uM4), wZ) ec rr := by
  unfold f_X7_withdraw at hf
  refine xTi_of pn_X7 (Nat.le_of_ble_eq_true rfl) ?_
  intro A p e s m args below meth c ls Q hlt hc hw hl K KX KO
  have hc : xC κ A p s m args meth c cX7_withdraw RX7 3 (some .int) := hc
  have hx := hc.1.1
  have hb := hc.1.2.1
  have hl : lv_has ls 3 [(0, .ref (xAd κ 234)), (1, .int x1), (2, .int x2)] := hl
  refine lv_aload_n hx hb dX7_withdraw_0 rfl (lv_at hl 0 rfl) ?_
  refine lv_aload_n hx hb dX7_withdraw_1 rfl (lv_at hl 0 rfl) ?_
  refine x_get (v := .ref (xAd κ (26 * 0))) hc hw co_234 fX7_10 rfl dX7_withdraw_2 ?_
  refine lv_iload_n hx hb dX7_withdraw_5 rfl (lv_at hl 1 rfl) ?_
  refine lv_iload_n hx hb dX7_withdraw_6 rfl (lv_at hl 2 rfl) ?_
  obtain ⟨v1, h2, hf⟩ := xb1_of hf
  refine x_calliV (As := [.int x1, .int x2]) (rest := [.ref (xAd κ 234)]) (σ' := (upA uA 0 (uP, uC, uD, uJ, ur, ut, ud, ug), (uT0, uT1, uT2, uT3, uT4, uT5, uT6, uT7, uT8), (uG0, uG1, uG2), (uM0, uM1, uM2, uM3, uM4), wZ)) hc hw hl.1 (m_X0_faultOfWithdrawal z9 h2) kX7_138 (ca_0 z9) rfl rfl ⟨rfl, rfl⟩ ⟨Nat.le_of_ble_eq_true rfl, Nat.le_of_ble_eq_true rfl⟩ ⟨Nat.zero_le _, Nat.zero_le _⟩ (Nat.le_of_ble_eq_true rfl) dX7_withdraw_7 (fun H locs hw => ?_)
  obtain ⟨e3, uM3_4, h5, hf⟩ := xb2_of hf
  refine x_tcallvV (As := [.int v1]) (rest := []) (σ' := (upA uA 0 (uP, uC, uD, uJ, ur, ut, ud, ug), (uT0, uT1, uT2, uT3, uT4, uT5, uT6, uT7, uT8), (uG0, uG1, uG2), (uM0, uM1, uM2, uM3_4, uM4), wZ)) hc hw hl.1 hlt (m_X7_refuse h5) kX7_91 co_234 rfl rfl ⟨rfl, rfl⟩ ⟨Nat.le_of_ble_eq_true rfl, Nat.le_of_ble_eq_true rfl⟩ ⟨Nat.le_of_ble_eq_true rfl, Nat.le_of_ble_eq_true rfl⟩ (Nat.le_of_ble_eq_true rfl) dX7_withdraw_10 (fun c6 H locs q ce hw q1 q2 q3 => ?_) (fun c6 H locs hw => ?_)
  · have hf := xif_f c6 hf
    cases hf
    exact KO _ _ _ _ _ _ _ _ _ (Nat.le_refl _) (Nat.le_refl _) c6 hw q1 q2 q3
  · have hf := xif_t c6 hf
    refine lv_aload_n hx hb dX7_withdraw_13 rfl (lv_at hl 0 rfl) ?_
    obtain ⟨uA_7, uM1_8, uM2_9, h10, hf⟩ := xb3_of hf
    refine x_callvV (As := []) (rest := []) (σ' := (upA uA_7 0 (uP, uC, uD, uJ, ur, ut, ud, ug), (uT0, uT1, uT2, uT3, uT4, uT5, uT6, uT7, uT8), (uG0, uG1, uG2), (uM0, uM1_8, uM2_9, uM3_4, uM4), wZ)) hc hw hl.1 (m_X7_remember h10) kX7_80 co_234 rfl rfl ⟨rfl, rfl⟩ ⟨Nat.le_of_ble_eq_true rfl, Nat.le_of_ble_eq_true rfl⟩ ⟨Nat.le_of_ble_eq_true rfl, Nat.le_of_ble_eq_true rfl⟩ (Nat.le_of_ble_eq_true rfl) dX7_withdraw_14 (fun H locs hw => ?_)
    refine lv_aload_n hx hb dX7_withdraw_17 rfl (lv_at hl 0 rfl) ?_
    refine x_get (v := .ref (xAd κ (26 * 0))) hc hw co_234 fX7_10 rfl dX7_withdraw_18 ?_
    refine lv_iload_n hx hb dX7_withdraw_21 rfl (lv_at hl 1 rfl) ?_
    refine lv_iload_n hx hb dX7_withdraw_22 rfl (lv_at hl 2 rfl) ?_
    obtain ⟨uC_11, uJ_12, h13, hf⟩ := xb2_of hf
    refine x_callvV (As := [.int x1, .int x2]) (rest := []) (σ' := (upA uA_7 0 (uP, uC_11, uD, uJ_12, ur, ut, ud, ug), (uT0, uT1, uT2, uT3, uT4, uT5, uT6, uT7, uT8), (uG0, uG1, uG2), (uM0, uM1_8, uM2_9, uM3_4, uM4), wZ)) hc hw hl.1 (m_X0_makeWithdrawal z9 h13) kX7_141 (ca_0 z9) rfl rfl ⟨rfl, rfl⟩ ⟨Nat.le_of_ble_eq_true rfl, Nat.le_of_ble_eq_true rfl⟩ ⟨Nat.le_of_ble_eq_true rfl, Nat.le_of_ble_eq_true rfl⟩ (Nat.le_of_ble_eq_true rfl) dX7_withdraw_23 (fun H locs hw => ?_)
    refine lv_aload_n hx hb dX7_withdraw_26 rfl (lv_at hl 0 rfl) ?_
    refine x_get (v := .ref (xAd κ (26 * 0))) hc hw co_234 fX7_10 rfl dX7_withdraw_27 ?_
    refine x_get (v := .ref (xAd κ (26 * 0 + 8))) hc hw (ca_0 z9) fX7_116 rfl dX7_withdraw_30 ?_
    refine lv_iload_n hx hb dX7_withdraw_33 rfl (lv_at hl 1 rfl) ?_
    obtain ⟨v14, h15, hf⟩ := xb1_of hf
    refine x_calliV (As := [.int x1]) (rest := []) (σ' := (upA uA_7 0 (uP, uC_11, uD, uJ_12, ur, ut, ud, ug), (uT0, uT1, uT2, uT3, uT4, uT5, uT6, uT7, uT8), (uG0, uG1, uG2), (uM0, uM1_8, uM2_9, uM3_4, uM4), wZ)) hc hw hl.1 (m_X1_leftOf z9 h15) kX7_131 (ca_8 z9) rfl rfl ⟨rfl, rfl⟩ ⟨Nat.le_of_ble_eq_true rfl, Nat.le_of_ble_eq_true rfl⟩ ⟨Nat.le_of_ble_eq_true rfl, Nat.le_of_ble_eq_true rfl⟩ (Nat.le_of_ble_eq_true rfl) dX7_withdraw_34 (fun H locs hw => ?_)
    cases hf
    exact K _ _ _ _ _ _ (by decide) (by decide) dX7_withdraw_37 rfl rfl hw
def f_X7_claimed (x1 : Int32) (x2 : Int32) (uC : sCla) (uM3 : Int32) : Option (Nat × Int32 × Int32) :=
  xb1 (f_X1_has x1 uC) fun v1 => (xb1 (f_X7_faultOfQuestion v1 x2 6) fun v3 => (xb2 (f_X7_refuse v3 uM3) fun e5 uM3_6 => (if e5 = 0 then (xb1 (f_X1_numberOf x1 x2 uC) fun v9 => (some (0, v9, uM3_6))) else (some (e5, 0, uM3_6)))))
set_option maxHeartbeats 4000000 in
set_option maxRecDepth 100000 in
theorem m_X7_claimed {l : Launch} {κ : xKt} {wZ : sRef × sOut}  {x1 : Int32} {x2 : Int32} {uA : Nat → sAcc} {uP : sPar} {uC : sCla} {uD : sDeb} {uJ : sJou} {ur : xF32} {ut : xF32} {ud : Int32} {ug : Int32} {uT0 : Int32} {uT1 : xF32} {uT2 : Int32} {uT3 : Int32} {uT4 : Int32} {uT5 : xF32} {uT6 : xF32} {uT7 : xF32} {uT8 : xF32} {uG0 : Int32} {uG1 : xF32} {uG2 : xF32} {uM0 : Int32} {uM1 : Int32} {uM2 : Int32} {uM3 : Int32} {uM4 : Int32} {ec : Nat} {rr : Int32} {yM3 : Int32} (hf : f_X7_claimed x1 x2 uC uM3 = some (ec, rr, yM3)) : xTi l κ yX7_claimed cX7_claimed 3 (some .int) (xR 2 1 6) [.ref (xAd κ 234), .int x1, .int x2] (upA uA 0 (uP, uC, uD, uJ, ur, ut, ud, ug), (uT0, uT1, uT2, uT3, uT4, uT5, uT6, uT7, uT8), (uG0, uG1, uG2), (uM0, uM1, uM2, uM3, uM4), wZ) (upA uA 0 (uP, uC, uD, uJ, ur, ut, ud, ug), (uT0, uT1, uT2, uT3, uT4, uT5, uT6, uT7, uT8), (uG0, uG1, uG2), (uM0, uM1, uM2, yM3, uM4), wZ) ec rr := by
  unfold f_X7_claimed at hf
  refine xTi_of pn_X7 (Nat.le_of_ble_eq_true rfl) ?_
  intro A p e s m args below meth c ls Q hlt hc hw hl K KX KO
  have hc : xC κ A p s m args meth c cX7_claimed RX7 3 (some .int) := hc
  have hx := hc.1.1
  have hb := hc.1.2.1
  have hl : lv_has ls 3 [(0, .ref (xAd κ 234)), (1, .int x1), (2, .int x2)] := hl
  refine lv_aload_n hx hb dX7_claimed_0 rfl (lv_at hl 0 rfl) ?_
  refine lv_aload_n hx hb dX7_claimed_1 rfl (lv_at hl 0 rfl) ?_
  refine x_get (v := .ref (xAd κ (26 * 0))) hc hw co_234 fX7_10 rfl dX7_claimed_2 ?_
  refine x_get (v := .ref (xAd κ (26 * 0 + 8))) hc hw (ca_0 z9) fX7_116 rfl dX7_claimed_5 ?_
  refine lv_iload_n hx hb dX7_claimed_8 rfl (lv_at hl 1 rfl) ?_
  obtain ⟨v1, h2, hf⟩ := xb1_of hf
  refine x_calliV (As := [.int x1]) (rest := [.ref (xAd κ 234)]) (σ' := (upA uA 0 (uP, uC, uD, uJ, ur, ut, ud, ug), (uT0, uT1, uT2, uT3, uT4, uT5, uT6, uT7, uT8), (uG0, uG1, uG2), (uM0, uM1, uM2, uM3, uM4), wZ)) hc hw hl.1 (m_X1_has z9 h2) kX7_144 (ca_8 z9) rfl rfl ⟨rfl, rfl⟩ ⟨Nat.le_of_ble_eq_true rfl, Nat.le_of_ble_eq_true rfl⟩ ⟨Nat.zero_le _, Nat.zero_le _⟩ (Nat.le_of_ble_eq_true rfl) dX7_claimed_9 (fun H locs hw => ?_)
  refine lv_iload_n hx hb dX7_claimed_12 rfl (lv_at hl 2 rfl) ?_
  refine lv_bipush (v := 6) hx hb dX7_claimed_13 (by decide) ?_
  obtain ⟨v3, h4, hf⟩ := xb1_of hf
  refine x_calliS (As := [.int v1, .int x2, .int 6]) (rest := [.ref (xAd κ 234)]) (σ' := (upA uA 0 (uP, uC, uD, uJ, ur, ut, ud, ug), (uT0, uT1, uT2, uT3, uT4, uT5, uT6, uT7, uT8), (uG0, uG1, uG2), (uM0, uM1, uM2, uM3, uM4), wZ)) hc hw hl.1 (m_X7_faultOfQuestion h4) kX7_105 rfl rfl ⟨rfl, rfl⟩ ⟨Nat.le_of_ble_eq_true rfl, Nat.le_of_ble_eq_true rfl⟩ ⟨Nat.zero_le _, Nat.zero_le _⟩ (Nat.le_of_ble_eq_true rfl) dX7_claimed_15 (fun H locs hw => ?_)
  obtain ⟨e5, uM3_6, h7, hf⟩ := xb2_of hf
  refine x_tcallvV (As := [.int v3]) (rest := []) (σ' := (upA uA 0 (uP, uC, uD, uJ, ur, ut, ud, ug), (uT0, uT1, uT2, uT3, uT4, uT5, uT6, uT7, uT8), (uG0, uG1, uG2), (uM0, uM1, uM2, uM3_6, uM4), wZ)) hc hw hl.1 hlt (m_X7_refuse h7) kX7_91 co_234 rfl rfl ⟨rfl, rfl⟩ ⟨Nat.le_of_ble_eq_true rfl, Nat.le_of_ble_eq_true rfl⟩ ⟨Nat.le_of_ble_eq_true rfl, Nat.le_of_ble_eq_true rfl⟩ (Nat.le_of_ble_eq_true rfl) dX7_claimed_18 (fun c8 H locs q ce hw q1 q2 q3 => ?_) (fun c8 H locs hw => ?_)
  · have hf := xif_f c8 hf
    cases hf
    exact KO _ _ _ _ _ _ _ _ _ (Nat.le_refl _) (Nat.le_refl _) c8 hw q1 q2 q3
  · have hf := xif_t c8 hf
    refine lv_aload_n hx hb dX7_claimed_21 rfl (lv_at hl 0 rfl) ?_
    refine x_get (v := .ref (xAd κ (26 * 0))) hc hw co_234 fX7_10 rfl dX7_claimed_22 ?_
    refine x_get (v := .ref (xAd κ (26 * 0 + 8))) hc hw (ca_0 z9) fX7_116 rfl dX7_claimed_25 ?_
    refine lv_iload_n hx hb dX7_claimed_28 rfl (lv_at hl 1 rfl) ?_
    refine lv_iload_n hx hb dX7_claimed_29 rfl (lv_at hl 2 rfl) ?_
    obtain ⟨v9, h10, hf⟩ := xb1_of hf
    refine x_calliV (As := [.int x1, .int x2]) (rest := []) (σ' := (upA uA 0 (uP, uC, uD, uJ, ur, ut, ud, ug), (uT0, uT1, uT2, uT3, uT4, uT5, uT6, uT7, uT8), (uG0, uG1, uG2), (uM0, uM1, uM2, uM3_6, uM4), wZ)) hc hw hl.1 (m_X1_numberOf z9 h10) kX7_145 (ca_8 z9) rfl rfl ⟨rfl, rfl⟩ ⟨Nat.le_of_ble_eq_true rfl, Nat.le_of_ble_eq_true rfl⟩ ⟨Nat.le_of_ble_eq_true rfl, Nat.le_of_ble_eq_true rfl⟩ (Nat.le_of_ble_eq_true rfl) dX7_claimed_30 (fun H locs hw => ?_)
    cases hf
    exact K _ _ _ _ _ _ (by decide) (by decide) dX7_claimed_33 rfl rfl hw
def f_X7_reason (uM3 : Int32) : Option (Nat × Int32) :=
  if uM3 = (-1) then (some (5, 0)) else (some (0, uM3))
set_option maxHeartbeats 4000000 in
set_option maxRecDepth 100000 in
theorem m_X7_reason {l : Launch} {κ : xKt} {wZ : sRef × sOut}  {uA : Nat → sAcc} {uP : sPar} {uC : sCla} {uD : sDeb} {uJ : sJou} {ur : xF32} {ut : xF32} {ud : Int32} {ug : Int32} {uT0 : Int32} {uT1 : xF32} {uT2 : Int32} {uT3 : Int32} {uT4 : Int32} {uT5 : xF32} {uT6 : xF32} {uT7 : xF32} {uT8 : xF32} {uG0 : Int32} {uG1 : xF32} {uG2 : xF32} {uM0 : Int32} {uM1 : Int32} {uM2 : Int32} {uM3 : Int32} {uM4 : Int32} {ec : Nat} {rr : Int32} (hf : f_X7_reason uM3 = some (ec, rr)) : xTi l κ yX7_reason cX7_reason 1 (some .int) (xR 0 1 6) [.ref (xAd κ 234)] (upA uA 0 (uP, uC, uD, uJ, ur, ut, ud, ug), (uT0, uT1, uT2, uT3, uT4, uT5, uT6, uT7, uT8), (uG0, uG1, uG2), (uM0, uM1, uM2, uM3, uM4), wZ) (upA uA 0 (uP, uC, uD, uJ, ur, ut, ud, ug), (uT0, uT1, uT2, uT3, uT4, uT5, uT6, uT7, uT8), (uG0, uG1, uG2), (uM0, uM1, uM2, uM3, uM4), wZ) ec rr := by
  unfold f_X7_reason at hf
  refine xTi_of pn_X7 (Nat.le_of_ble_eq_true rfl) ?_
  intro A p e s m args below meth c ls Q hlt hc hw hl K KX KO
  have hc : xC κ A p s m args meth c cX7_reason RX7 1 (some .int) := hc
  have hx := hc.1.1
  have hb := hc.1.2.1
  have hl : lv_has ls 1 [(0, .ref (xAd κ 234))] := hl
  refine lv_aload_n hx hb dX7_reason_0 rfl (lv_at hl 0 rfl) ?_
  refine x_get (v := .int uM3) hc hw co_234 fX7_48 rfl dX7_reason_1 ?_
  refine lv_iconst (v := (-1)) hx hb dX7_reason_4 (by decide) ?_
  refine lv_icmp_ne (tgt := 16) hx hb dX7_reason_5 (by decide) (fun c1 => ?_) (fun c1 => ?_)
  · have hf := xif_f c1 hf
    refine lv_aload_n hx hb dX7_reason_16 rfl (lv_at hl 0 rfl) ?_
    refine x_get (v := .int uM3) hc hw co_234 fX7_48 rfl dX7_reason_17 ?_
    cases hf
    exact K _ _ _ _ _ _ (by decide) (by decide) dX7_reason_20 rfl rfl hw
  · have hf := xif_t c1 hf
    cases hf
    exact KX _ _ _ _ _ _ _ (by decide) tX7_148 dX7_reason_8 dX7_reason_11 dX7_reason_12 dX7_reason_15 hl.1 (Nat.le_of_ble_eq_true rfl) hw
def f_X7_inDispute (fu : Nat) (uC : sCla) : Option Int64 :=
  xb1 (f_X1_sumInDispute fu uC) fun v1 => (some v1)
set_option maxHeartbeats 4000000 in
set_option maxRecDepth 100000 in
theorem m_X7_inDispute {l : Launch} {κ : xKt} {wZ : sRef × sOut} {fu : Nat} {uA : Nat → sAcc} {uP : sPar} {uC : sCla} {uD : sDeb} {uJ : sJou} {ur : xF32} {ut : xF32} {ud : Int32} {ug : Int32} {uT0 : Int32} {uT1 : xF32} {uT2 : Int32} {uT3 : Int32} {uT4 : Int32} {uT5 : xF32} {uT6 : xF32} {uT7 : xF32} {uT8 : xF32} {uG0 : Int32} {uG1 : xF32} {uG2 : xF32} {uM0 : Int32} {uM1 : Int32} {uM2 : Int32} {uM3 : Int32} {uM4 : Int32} {rr : Int64} (hf : f_X7_inDispute fu uC = some rr) : xMl l κ yX7_inDispute cX7_inDispute 1 (some .long) (xR 1 0 0) [.ref (xAd κ 234)] (upA uA 0 (uP, uC, uD, uJ, ur, ut, ud, ug), (uT0, uT1, uT2, uT3, uT4, uT5, uT6, uT7, uT8), (uG0, uG1, uG2), (uM0, uM1, uM2, uM3, uM4), wZ) (upA uA 0 (uP, uC, uD, uJ, ur, ut, ud, ug), (uT0, uT1, uT2, uT3, uT4, uT5, uT6, uT7, uT8), (uG0, uG1, uG2), (uM0, uM1, uM2, uM3, uM4), wZ) rr := by
  unfold f_X7_inDispute at hf
  refine xMl_of pn_X7 (Nat.le_of_ble_eq_true rfl) ⟨rfl, rfl⟩ ?_
  intro A p e s m args below meth c ls Q hc hw hl K
  have hc : xC κ A p s m args meth c cX7_inDispute RX7 1 (some .long) := hc
  have hx := hc.1.1
  have hb := hc.1.2.1
  have hl : lv_has ls 1 [(0, .ref (xAd κ 234))] := hl
  refine lv_aload_n hx hb dX7_inDispute_0 rfl (lv_at hl 0 rfl) ?_
  refine x_get (v := .ref (xAd κ (26 * 0))) hc hw co_234 fX7_10 rfl dX7_inDispute_1 ?_
  refine x_get (v := .ref (xAd κ (26 * 0 + 8))) hc hw (ca_0 z9) fX7_116 rfl dX7_inDispute_4 ?_
  obtain ⟨v1, h2, hf⟩ := xb1_of hf
  refine x_calllV (As := []) (rest := []) (σ' := (upA uA 0 (uP, uC, uD, uJ, ur, ut, ud, ug), (uT0, uT1, uT2, uT3, uT4, uT5, uT6, uT7, uT8), (uG0, uG1, uG2), (uM0, uM1, uM2, uM3, uM4), wZ)) hc hw hl.1 (m_X1_sumInDispute z9 h2) kX7_151 (ca_8 z9) rfl rfl ⟨rfl, rfl⟩ ⟨Nat.le_of_ble_eq_true rfl, Nat.le_of_ble_eq_true rfl⟩ ⟨Nat.zero_le _, Nat.zero_le _⟩ (Nat.le_of_ble_eq_true rfl) dX7_inDispute_7 (fun H locs hw => ?_)
  cases hf
  exact K _ _ _ _ dX7_inDispute_10 hw
def f_X7_fees (fu : Nat) (x1 : Int32) (uC : sCla) (ut : xF32) : Option (Nat × Int64) :=
  if x1 = (-1) then (xb1 (f_X0_feesOfAll fu uC ut) fun v9 => (some (0, v9))) else (xb1 (f_X7_isWithin x1 0 3) fun v2 => (if v2 = 0 then (some (1, 0)) else (xb1 (f_X1_sumInDispute fu uC) fun v5 => (xb1 (f_X0_feeOfTier v5 x1 ut) fun v7 => (some (0, v7))))))
set_option maxHeartbeats 4000000 in
set_option maxRecDepth 100000 in
theorem m_X7_fees {l : Launch} {κ : xKt} {wZ : sRef × sOut} {fu : Nat} {x1 : Int32} {uA : Nat → sAcc} {uP : sPar} {uC : sCla} {uD : sDeb} {uJ : sJou} {ur : xF32} {ut : xF32} {ud : Int32} {ug : Int32} {uT0 : Int32} {uT1 : xF32} {uT2 : Int32} {uT3 : Int32} {uT4 : Int32} {uT5 : xF32} {uT6 : xF32} {uT7 : xF32} {uT8 : xF32} {uG0 : Int32} {uG1 : xF32} {uG2 : xF32} {uM0 : Int32} {uM1 : Int32} {uM2 : Int32} {uM3 : Int32} {uM4 : Int32} {ec : Nat} {rr : Int64} (hf : f_X7_fees fu x1 uC ut = some (ec, rr)) : xTl l κ yX7_fees cX7_fees 2 (some .long) (xR 3 1 6) [.ref (xAd κ 234), .int x1] (upA uA 0 (uP, uC, uD, uJ, ur, ut, ud, ug), (uT0, uT1, uT2, uT3, uT4, uT5, uT6, uT7, uT8), (uG0, uG1, uG2), (uM0, uM1, uM2, uM3, uM4), wZ) (upA uA 0 (uP, uC, uD, uJ, ur, ut, ud, ug), (uT0, uT1, uT2, uT3, uT4, uT5, uT6, uT7, uT8), (uG0, uG1, uG2), (uM0, uM1, uM2, uM3, uM4), wZ) ec rr := by
  unfold f_X7_fees at hf
  refine xTl_of pn_X7 (Nat.le_of_ble_eq_true rfl) ?_
  intro A p e s m args below meth c ls Q hlt hc hw hl K KX KO
  have hc : xC κ A p s m args meth c cX7_fees RX7 2 (some .long) := hc
  have hx := hc.1.1
  have hb := hc.1.2.1
  have hl : lv_has ls 2 [(0, .ref (xAd κ 234)), (1, .int x1)] := hl
  refine lv_iload_n hx hb dX7_fees_0 rfl (lv_at hl 1 rfl) ?_
  refine lv_iconst (v := (-1)) hx hb dX7_fees_1 (by decide) ?_
  refine lv_icmp_ne (tgt := 13) hx hb dX7_fees_2 (by decide) (fun c1 => ?_) (fun c1 => ?_)
  · have hf := xif_f c1 hf
    refine lv_iload_n hx hb dX7_fees_13 rfl (lv_at hl 1 rfl) ?_
    refine lv_iconst (v := 0) hx hb dX7_fees_14 (by decide) ?_
    refine lv_iconst (v := 3) hx hb dX7_fees_15 (by decide) ?_
    obtain ⟨v2, h3, hf⟩ := xb1_of hf
    refine x_calliS (As := [.int x1, .int 0, .int 3]) (rest := []) (σ' := (upA uA 0 (uP, uC, uD, uJ, ur, ut, ud, ug), (uT0, uT1, uT2, uT3, uT4, uT5, uT6, uT7, uT8), (uG0, uG1, uG2), (uM0, uM1, uM2, uM3, uM4), wZ)) hc hw hl.1 (m_X7_isWithin h3) kX7_70 rfl rfl ⟨rfl, rfl⟩ ⟨Nat.le_of_ble_eq_true rfl, Nat.le_of_ble_eq_true rfl⟩ ⟨Nat.zero_le _, Nat.zero_le _⟩ (Nat.le_of_ble_eq_true rfl) dX7_fees_16 (fun H locs hw => ?_)
    refine lv_if_ne (tgt := 30) hx hb dX7_fees_19 (by decide) (fun c4 => ?_) (fun c4 => ?_)
    · have hf := xif_f c4 hf
      refine lv_aload_n hx hb dX7_fees_30 rfl (lv_at hl 0 rfl) ?_
      refine x_get (v := .ref (xAd κ (26 * 0))) hc hw co_234 fX7_10 rfl dX7_fees_31 ?_
      refine lv_aload_n hx hb dX7_fees_34 rfl (lv_at hl 0 rfl) ?_
      refine x_get (v := .ref (xAd κ (26 * 0))) hc hw co_234 fX7_10 rfl dX7_fees_35 ?_
      refine x_get (v := .ref (xAd κ (26 * 0 + 8))) hc hw (ca_0 z9) fX7_116 rfl dX7_fees_38 ?_
      obtain ⟨v5, h6, hf⟩ := xb1_of hf
      refine x_calllV (As := []) (rest := [.ref (xAd κ (26 * 0))]) (σ' := (upA uA 0 (uP, uC, uD, uJ, ur, ut, ud, ug), (uT0, uT1, uT2, uT3, uT4, uT5, uT6, uT7, uT8), (uG0, uG1, uG2), (uM0, uM1, uM2, uM3, uM4), wZ)) hc hw hl.1 (m_X1_sumInDispute z9 h6) kX7_151 (ca_8 z9) rfl rfl ⟨rfl, rfl⟩ ⟨Nat.le_of_ble_eq_true rfl, Nat.le_of_ble_eq_true rfl⟩ ⟨Nat.zero_le _, Nat.zero_le _⟩ (Nat.le_of_ble_eq_true rfl) dX7_fees_41 (fun H locs hw => ?_)
      refine lv_iload_n hx hb dX7_fees_44 rfl (lv_at hl 1 rfl) ?_
      obtain ⟨v7, h8, hf⟩ := xb1_of hf
      refine x_calllV (As := [.long v5, .int x1]) (rest := []) (σ' := (upA uA 0 (uP, uC, uD, uJ, ur, ut, ud, ug), (uT0, uT1, uT2, uT3, uT4, uT5, uT6, uT7, uT8), (uG0, uG1, uG2), (uM0, uM1, uM2, uM3, uM4), wZ)) hc hw hl.1 (m_X0_feeOfTier z9 h8) kX7_161 (ca_0 z9) rfl rfl ⟨rfl, rfl⟩ ⟨Nat.le_of_ble_eq_true rfl, Nat.le_of_ble_eq_true rfl⟩ ⟨Nat.zero_le _, Nat.zero_le _⟩ (Nat.le_of_ble_eq_true rfl) dX7_fees_45 (fun H locs hw => ?_)
      cases hf
      exact K _ _ _ _ _ _ (by decide) (by decide) dX7_fees_48 rfl hw
    · have hf := xif_t c4 hf
      cases hf
      exact KX _ _ _ _ _ _ _ (by decide) tX7_158 dX7_fees_22 dX7_fees_25 dX7_fees_26 dX7_fees_29 hl.1 (Nat.le_of_ble_eq_true rfl) hw
  · have hf := xif_t c1 hf
    refine lv_aload_n hx hb dX7_fees_5 rfl (lv_at hl 0 rfl) ?_
    refine x_get (v := .ref (xAd κ (26 * 0))) hc hw co_234 fX7_10 rfl dX7_fees_6 ?_
    obtain ⟨v9, h10, hf⟩ := xb1_of hf
    refine x_calllV (As := []) (rest := []) (σ' := (upA uA 0 (uP, uC, uD, uJ, ur, ut, ud, ug), (uT0, uT1, uT2, uT3, uT4, uT5, uT6, uT7, uT8), (uG0, uG1, uG2), (uM0, uM1, uM2, uM3, uM4), wZ)) hc hw hl.1 (m_X0_feesOfAll z9 h10) kX7_155 (ca_0 z9) rfl rfl ⟨rfl, rfl⟩ ⟨Nat.le_of_ble_eq_true rfl, Nat.le_of_ble_eq_true rfl⟩ ⟨Nat.zero_le _, Nat.zero_le _⟩ (Nat.le_of_ble_eq_true rfl) dX7_fees_9 (fun H locs hw => ?_)
    cases hf
    exact K _ _ _ _ _ _ (by decide) (by decide) dX7_fees_12 rfl hw
def f_X7_wouldBe (fu : Nat) (x1 : Int32) (ut : xF32) : Option (Nat × Int64) :=
  xb1 (f_X7_isWithin x1 1 1200000000) fun v1 => (if v1 = 0 then (some (2, 0)) else (xb1 (f_X0_feesOfSum fu x1.toInt64 ut) fun v4 => (some (0, v4))))
set_option maxHeartbeats 4000000 in
set_option maxRecDepth 100000 in
theorem m_X7_wouldBe {l : Launch} {κ : xKt} {wZ : sRef × sOut} {fu : Nat} {x1 : Int32} {uA : Nat → sAcc} {uP : sPar} {uC : sCla} {uD : sDeb} {uJ : sJou} {ur : xF32} {ut : xF32} {ud : Int32} {ug : Int32} {uT0 : Int32} {uT1 : xF32} {uT2 : Int32} {uT3 : Int32} {uT4 : Int32} {uT5 : xF32} {uT6 : xF32} {uT7 : xF32} {uT8 : xF32} {uG0 : Int32} {uG1 : xF32} {uG2 : xF32} {uM0 : Int32} {uM1 : Int32} {uM2 : Int32} {uM3 : Int32} {uM4 : Int32} {ec : Nat} {rr : Int64} (hf : f_X7_wouldBe fu x1 ut = some (ec, rr)) : xTl l κ yX7_wouldBe cX7_wouldBe 2 (some .long) (xR 2 1 6) [.ref (xAd κ 234), .int x1] (upA uA 0 (uP, uC, uD, uJ, ur, ut, ud, ug), (uT0, uT1, uT2, uT3, uT4, uT5, uT6, uT7, uT8), (uG0, uG1, uG2), (uM0, uM1, uM2, uM3, uM4), wZ) (upA uA 0 (uP, uC, uD, uJ, ur, ut, ud, ug), (uT0, uT1, uT2, uT3, uT4, uT5, uT6, uT7, uT8), (uG0, uG1, uG2), (uM0, uM1, uM2, uM3, uM4), wZ) ec rr := by
  unfold f_X7_wouldBe at hf
  refine xTl_of pn_X7 (Nat.le_of_ble_eq_true rfl) ?_
  intro A p e s m args below meth c ls Q hlt hc hw hl K KX KO
  have hc : xC κ A p s m args meth c cX7_wouldBe RX7 2 (some .long) := hc
  have hx := hc.1.1
  have hb := hc.1.2.1
  have hl : lv_has ls 2 [(0, .ref (xAd κ 234)), (1, .int x1)] := hl
  refine lv_iload_n hx hb dX7_wouldBe_0 rfl (lv_at hl 1 rfl) ?_
  refine lv_iconst (v := 1) hx hb dX7_wouldBe_1 (by decide) ?_
  refine x_ldc hc w_constant_RX7_165_1200000000 dX7_wouldBe_2 ?_
  obtain ⟨v1, h2, hf⟩ := xb1_of hf
  refine x_calliS (As := [.int x1, .int 1, .int 1200000000]) (rest := []) (σ' := (upA uA 0 (uP, uC, uD, uJ, ur, ut, ud, ug), (uT0, uT1, uT2, uT3, uT4, uT5, uT6, uT7, uT8), (uG0, uG1, uG2), (uM0, uM1, uM2, uM3, uM4), wZ)) hc hw hl.1 (m_X7_isWithin h2) kX7_70 rfl rfl ⟨rfl, rfl⟩ ⟨Nat.le_of_ble_eq_true rfl, Nat.le_of_ble_eq_true rfl⟩ ⟨Nat.zero_le _, Nat.zero_le _⟩ (Nat.le_of_ble_eq_true rfl) dX7_wouldBe_4 (fun H locs hw => ?_)
  refine lv_if_ne (tgt := 18) hx hb dX7_wouldBe_7 (by decide) (fun c3 => ?_) (fun c3 => ?_)
  · have hf := xif_f c3 hf
    refine lv_aload_n hx hb dX7_wouldBe_18 rfl (lv_at hl 0 rfl) ?_
    refine x_get (v := .ref (xAd κ (26 * 0))) hc hw co_234 fX7_10 rfl dX7_wouldBe_19 ?_
    refine lv_iload_n hx hb dX7_wouldBe_22 rfl (lv_at hl 1 rfl) ?_
    refine lv_i2l (v := x1.toInt64) hx hb dX7_wouldBe_23 rfl ?_
    obtain ⟨v4, h5, hf⟩ := xb1_of hf
    refine x_calllV (As := [.long x1.toInt64]) (rest := []) (σ' := (upA uA 0 (uP, uC, uD, uJ, ur, ut, ud, ug), (uT0, uT1, uT2, uT3, uT4, uT5, uT6, uT7, uT8), (uG0, uG1, uG2), (uM0, uM1, uM2, uM3, uM4), wZ)) hc hw hl.1 (m_X0_feesOfSum z9 h5) kX7_166 (ca_0 z9) rfl rfl ⟨rfl, rfl⟩ ⟨Nat.le_of_ble_eq_true rfl, Nat.le_of_ble_eq_true rfl⟩ ⟨Nat.zero_le _, Nat.zero_le _⟩ (Nat.le_of_ble_eq_true rfl) dX7_wouldBe_24 (fun H locs hw => ?_)
    cases hf
    exact K _ _ _ _ _ _ (by decide) (by decide) dX7_wouldBe_27 rfl hw
  · have hf := xif_t c3 hf
    cases hf
    exact KX _ _ _ _ _ _ _ (by decide) tX7_74 dX7_wouldBe_10 dX7_wouldBe_13 dX7_wouldBe_14 dX7_wouldBe_17 hl.1 (Nat.le_of_ble_eq_true rfl) hw
def f_X7_side (fu : Nat) (x1 : Int32) (x2 : Int32) (uP : sPar) (uC : sCla) (ut : xF32) (uM3 : Int32) : Option (Nat × Int64 × Int32) :=
  xb1 (f_X7_isSide x1) fun v1 => (xb1 (f_X7_faultOfQuestion v1 x2 3) fun v3 => (xb2 (f_X7_refuse v3 uM3) fun e5 uM3_6 => (if e5 = 0 then (xb1 (f_X0_numberOfSide fu x1 x2 uP uC ut) fun v9 => (some (0, v9, uM3_6))) else (some (e5, 0, uM3_6)))))
set_option maxHeartbeats 4000000 in
set_option maxRecDepth 100000 in
theorem m_X7_side {l : Launch} {κ : xKt} {wZ : sRef × sOut} {fu : Nat} {x1 : Int32} {x2 : Int32} {uA : Nat → sAcc} {uP : sPar} {uC : sCla} {uD : sDeb} {uJ : sJou} {ur : xF32} {ut : xF32} {ud : Int32} {ug : Int32} {uT0 : Int32} {uT1 : xF32} {uT2 : Int32} {uT3 : Int32} {uT4 : Int32} {uT5 : xF32} {uT6 : xF32} {uT7 : xF32} {uT8 : xF32} {uG0 : Int32} {uG1 : xF32} {uG2 : xF32} {uM0 : Int32} {uM1 : Int32} {uM2 : Int32} {uM3 : Int32} {uM4 : Int32} {ec : Nat} {rr : Int64} {yM3 : Int32} (hf : f_X7_side fu x1 x2 uP uC ut uM3 = some (ec, rr, yM3)) : xTl l κ yX7_side cX7_side 3 (some .long) (xR 5 1 6) [.ref (xAd κ 234), .int x1, .int x2] (upA uA 0 (uP, uC, uD, uJ, ur, ut, ud, ug), (uT0, uT1, uT2, uT3, uT4, uT5, uT6, uT7, uT8), (uG0, uG1, uG2), (uM0, uM1, uM2, uM3, uM4), wZ) (upA uA 0 (uP, uC, uD, uJ, ur, ut, ud, ug), (uT0, uT1, uT2, uT3, uT4, uT5, uT6, uT7, uT8), (uG0, uG1, uG2), (uM0, uM1, uM2, yM3, uM4), wZ) ec rr := by
  unfold f_X7_side at hf
  refine xTl_of pn_X7 (Nat.le_of_ble_eq_true rfl) ?_
  intro A p e s m args below meth c ls Q hlt hc hw hl K KX KO
  have hc : xC κ A p s m args meth c cX7_side RX7 3 (some .long) := hc
  have hx := hc.1.1
  have hb := hc.1.2.1
  have hl : lv_has ls 3 [(0, .ref (xAd κ 234)), (1, .int x1), (2, .int x2)] := hl
  refine lv_aload_n hx hb dX7_side_0 rfl (lv_at hl 0 rfl) ?_
  refine lv_iload_n hx hb dX7_side_1 rfl (lv_at hl 1 rfl) ?_
  obtain ⟨v1, h2, hf⟩ := xb1_of hf
  refine x_calliS (As := [.int x1]) (rest := [.ref (xAd κ 234)]) (σ' := (upA uA 0 (uP, uC, uD, uJ, ur, ut, ud, ug), (uT0, uT1, uT2, uT3, uT4, uT5, uT6, uT7, uT8), (uG0, uG1, uG2), (uM0, uM1, uM2, uM3, uM4), wZ)) hc hw hl.1 (m_X7_isSide h2) kX7_66 rfl rfl ⟨rfl, rfl⟩ ⟨Nat.le_of_ble_eq_true rfl, Nat.le_of_ble_eq_true rfl⟩ ⟨Nat.zero_le _, Nat.zero_le _⟩ (Nat.le_of_ble_eq_true rfl) dX7_side_2 (fun H locs hw => ?_)
  refine lv_iload_n hx hb dX7_side_5 rfl (lv_at hl 2 rfl) ?_
  refine lv_iconst (v := 3) hx hb dX7_side_6 (by decide) ?_
  obtain ⟨v3, h4, hf⟩ := xb1_of hf
  refine x_calliS (As := [.int v1, .int x2, .int 3]) (rest := [.ref (xAd κ 234)]) (σ' := (upA uA 0 (uP, uC, uD, uJ, ur, ut, ud, ug), (uT0, uT1, uT2, uT3, uT4, uT5, uT6, uT7, uT8), (uG0, uG1, uG2), (uM0, uM1, uM2, uM3, uM4), wZ)) hc hw hl.1 (m_X7_faultOfQuestion h4) kX7_105 rfl rfl ⟨rfl, rfl⟩ ⟨Nat.le_of_ble_eq_true rfl, Nat.le_of_ble_eq_true rfl⟩ ⟨Nat.zero_le _, Nat.zero_le _⟩ (Nat.le_of_ble_eq_true rfl) dX7_side_7 (fun H locs hw => ?_)
  obtain ⟨e5, uM3_6, h7, hf⟩ := xb2_of hf
  refine x_tcallvV (As := [.int v3]) (rest := []) (σ' := (upA uA 0 (uP, uC, uD, uJ, ur, ut, ud, ug), (uT0, uT1, uT2, uT3, uT4, uT5, uT6, uT7, uT8), (uG0, uG1, uG2), (uM0, uM1, uM2, uM3_6, uM4), wZ)) hc hw hl.1 hlt (m_X7_refuse h7) kX7_91 co_234 rfl rfl ⟨rfl, rfl⟩ ⟨Nat.le_of_ble_eq_true rfl, Nat.le_of_ble_eq_true rfl⟩ ⟨Nat.le_of_ble_eq_true rfl, Nat.le_of_ble_eq_true rfl⟩ (Nat.le_of_ble_eq_true rfl) dX7_side_10 (fun c8 H locs q ce hw q1 q2 q3 => ?_) (fun c8 H locs hw => ?_)
  · have hf := xif_f c8 hf
    cases hf
    exact KO _ _ _ _ _ _ _ _ _ (Nat.le_refl _) (Nat.le_refl _) c8 hw q1 q2 q3
  · have hf := xif_t c8 hf
    refine lv_aload_n hx hb dX7_side_13 rfl (lv_at hl 0 rfl) ?_
    refine x_get (v := .ref (xAd κ (26 * 0))) hc hw co_234 fX7_10 rfl dX7_side_14 ?_
    refine lv_iload_n hx hb dX7_side_17 rfl (lv_at hl 1 rfl) ?_
    refine lv_iload_n hx hb dX7_side_18 rfl (lv_at hl 2 rfl) ?_
    obtain ⟨v9, h10, hf⟩ := xb1_of hf
    refine x_calllV (As := [.int x1, .int x2]) (rest := []) (σ' := (upA uA 0 (uP, uC, uD, uJ, ur, ut, ud, ug), (uT0, uT1, uT2, uT3, uT4, uT5, uT6, uT7, uT8), (uG0, uG1, uG2), (uM0, uM1, uM2, uM3_6, uM4), wZ)) hc hw hl.1 (m_X0_numberOfSide z9 h10) kX7_170 (ca_0 z9) rfl rfl ⟨rfl, rfl⟩ ⟨Nat.le_of_ble_eq_true rfl, Nat.le_of_ble_eq_true rfl⟩ ⟨Nat.le_of_ble_eq_true rfl, Nat.le_of_ble_eq_true rfl⟩ (Nat.le_of_ble_eq_true rfl) dX7_side_19 (fun H locs hw => ?_)
    cases hf
    exact K _ _ _ _ _ _ (by decide) (by decide) dX7_side_22 rfl hw
def f_X7_call (fu : Nat) (x1 : Int32) (uA : Nat → sAcc) (uP : sPar) (uC : sCla) (uD : sDeb) (uJ : sJou) (ur : xF32) (ut : xF32) (ud : Int32) (ug : Int32) (uM1 : Int32) (uM2 : Int32) : Option (Nat × Int64 × (Nat → sAcc) × sPar × sJou × Int32 × Int32) :=
  xb1 (f_X7_isAmount x1) fun v1 => (if v1 = 0 then (some (2, 0, uA, uP, uJ, uM1, uM2)) else (xb3 (f_X7_remember uA uP uC uD uJ ur ut ud ug uM1 uM2) fun uA_4 uM1_5 uM2_6 => (xb3 (f_X0_makeCall fu x1 uP uJ) fun v8 uP_9 uJ_10 => (some (0, v8, uA_4, uP_9, uJ_10, uM1_5, uM2_6)))))
set_option maxHeartbeats 4000000 in
set_option maxRecDepth 100000 in
theorem m_X7_call {l : Launch} {κ : xKt} {wZ : sRef × sOut} {fu : Nat} {x1 : Int32} {uA : Nat → sAcc} {uP : sPar} {uC : sCla} {uD : sDeb} {uJ : sJou} {ur : xF32} {ut : xF32} {ud : Int32} {ug : Int32} {uT0 : Int32} {uT1 : xF32} {uT2 : Int32} {uT3 : Int32} {uT4 : Int32} {uT5 : xF32} {uT6 : xF32} {uT7 : xF32} {uT8 : xF32} {uG0 : Int32} {uG1 : xF32} {uG2 : xF32} {uM0 : Int32} {uM1 : Int32} {uM2 : Int32} {uM3 : Int32} {uM4 : Int32} {ec : Nat} {rr : Int64} {yA : Nat → sAcc} {yP : sPar} {yJ : sJou} {yM1 : Int32} {yM2 : Int32} (hf : f_X7_call fu x1 uA uP uC uD uJ ur ut ud ug uM1 uM2 = some (ec, rr, yA, yP, yJ, yM1, yM2)) : xTl l κ yX7_call cX7_call 2 (some .long) (xR 3 1 6) [.ref (xAd κ 234), .int x1] (upA uA 0 (uP, uC, uD, uJ, ur, ut, ud, ug), (uT0, uT1, uT2, uT3, uT4, uT5, uT6, uT7, uT8), (uG0, uG1, uG2), (uM0, uM1, uM2, uM3, uM4), wZ) (upA yA 0 (yP, uC, uD, yJ, ur, ut, ud, ug), (uT0, uT1, uT2, uT3, uT4, uT5, uT6, uT7, uT8), (uG0, uG1, uG2), (uM0, yM1, yM2, uM3, uM4), wZ) ec rr := by
  unfold f_X7_call at hf
  refine xTl_of pn_X7 (Nat.le_of_ble_eq_true rfl) ?_
  intro A p e s m args below meth c ls Q hlt hc hw hl K KX KO
  have hc : xC κ A p s m args meth c cX7_call RX7 2 (some .long) := hc
  have hx := hc.1.1
  have hb := hc.1.2.1
  have hl : lv_has ls 2 [(0, .ref (xAd κ 234)), (1, .int x1)] := hl
  refine lv_iload_n hx hb dX7_call_0 rfl (lv_at hl 1 rfl) ?_
  obtain ⟨v1, h2, hf⟩ := xb1_of hf
  refine x_calliS (As := [.int x1]) (rest := []) (σ' := (upA uA 0 (uP, uC, uD, uJ, ur, ut, ud, ug), (uT0, uT1, uT2, uT3, uT4, uT5, uT6, uT7, uT8), (uG0, uG1, uG2), (uM0, uM1, uM2, uM3, uM4), wZ)) hc hw hl.1 (m_X7_isAmount h2) kX7_173 rfl rfl ⟨rfl, rfl⟩ ⟨Nat.le_of_ble_eq_true rfl, Nat.le_of_ble_eq_true rfl⟩ ⟨Nat.zero_le _, Nat.zero_le _⟩ (Nat.le_of_ble_eq_true rfl) dX7_call_1 (fun H locs hw => ?_)
  refine lv_if_ne (tgt := 15) hx hb dX7_call_4 (by decide) (fun c3 => ?_) (fun c3 => ?_)
  · have hf := xif_f c3 hf
    refine lv_aload_n hx hb dX7_call_15 rfl (lv_at hl 0 rfl) ?_
    obtain ⟨uA_4, uM1_5, uM2_6, h7, hf⟩ := xb3_of hf
    refine x_callvV (As := []) (rest := []) (σ' := (upA uA_4 0 (uP, uC, uD, uJ, ur, ut, ud, ug), (uT0, uT1, uT2, uT3, uT4, uT5, uT6, uT7, uT8), (uG0, uG1, uG2), (uM0, uM1_5, uM2_6, uM3, uM4), wZ)) hc hw hl.1 (m_X7_remember h7) kX7_80 co_234 rfl rfl ⟨rfl, rfl⟩ ⟨Nat.le_of_ble_eq_true rfl, Nat.le_of_ble_eq_true rfl⟩ ⟨Nat.zero_le _, Nat.zero_le _⟩ (Nat.le_of_ble_eq_true rfl) dX7_call_16 (fun H locs hw => ?_)
    refine lv_aload_n hx hb dX7_call_19 rfl (lv_at hl 0 rfl) ?_
    refine x_get (v := .ref (xAd κ (26 * 0))) hc hw co_234 fX7_10 rfl dX7_call_20 ?_
    refine lv_iload_n hx hb dX7_call_23 rfl (lv_at hl 1 rfl) ?_
    obtain ⟨v8, uP_9, uJ_10, h11, hf⟩ := xb3_of hf
    refine x_calllV (As := [.int x1]) (rest := []) (σ' := (upA uA_4 0 (uP_9, uC, uD, uJ_10, ur, ut, ud, ug), (uT0, uT1, uT2, uT3, uT4, uT5, uT6, uT7, uT8), (uG0, uG1, uG2), (uM0, uM1_5, uM2_6, uM3, uM4), wZ)) hc hw hl.1 (m_X0_makeCall z9 h11) kX7_176 (ca_0 z9) rfl rfl ⟨rfl, rfl⟩ ⟨Nat.le_of_ble_eq_true rfl, Nat.le_of_ble_eq_true rfl⟩ ⟨Nat.zero_le _, Nat.zero_le _⟩ (Nat.le_of_ble_eq_true rfl) dX7_call_24 (fun H locs hw => ?_)
    cases hf
    exact K _ _ _ _ _ _ (by decide) (by decide) dX7_call_27 rfl hw
  · have hf := xif_t c3 hf
    cases hf
    exact KX _ _ _ _ _ _ _ (by decide) tX7_74 dX7_call_7 dX7_call_10 dX7_call_11 dX7_call_14 hl.1 (Nat.le_of_ble_eq_true rfl) hw
def f_X7_pay (fu : Nat) (x1 : Int32) (x2 : Int32) (uA : Nat → sAcc) (uP : sPar) (uC : sCla) (uD : sDeb) (uJ : sJou) (ur : xF32) (ut : xF32) (ud : Int32) (ug : Int32) (uM1 : Int32) (uM2 : Int32) (uM3 : Int32) : Option (Nat × Int64 × (Nat → sAcc) × sPar × sJou × Int32 × Int32 × Int32) :=
  xb1 (f_X0_faultOfPayment x1 x2 uP) fun v1 => (xb2 (f_X7_refuse v1 uM3) fun e3 uM3_4 => (if e3 = 0 then (xb3 (f_X7_remember uA uP uC uD uJ ur ut ud ug uM1 uM2) fun uA_7 uM1_8 uM2_9 => (xb2 (f_X0_makePayment fu x1 x2.toInt64 uP uJ) fun uP_11 uJ_12 => (xb1 (f_X4_heldFor x1 uP_11) fun v14 => (some (0, v14, uA_7, uP_11, uJ_12, uM1_8, uM2_9, uM3_4))))) else (some (e3, 0, uA, uP, uJ, uM1, uM2, uM3_4))))
set_option maxHeartbeats 4000000 in
set_option maxRecDepth 100000 in
theorem m_X7_pay {l : Launch} {κ : xKt} {wZ : sRef × sOut} {fu : Nat} {x1 : Int32} {x2 : Int32} {uA : Nat → sAcc} {uP : sPar} {uC : sCla} {uD : sDeb} {uJ : sJou} {ur : xF32} {ut : xF32} {ud : Int32} {ug : Int32} {uT0 : Int32} {uT1 : xF32} {uT2 : Int32} {uT3 : Int32} {uT4 : Int32} {uT5 : xF32} {uT6 : xF32} {uT7 : xF32} {uT8 : xF32} {uG0 : Int32} {uG1 : xF32} {uG2 : xF32} {uM0 : Int32} {uM1 : Int32} {uM2 : Int32} {uM3 : Int32} {uM4 : Int32} {ec : Nat} {rr : Int64} {yA : Nat → sAcc} {yP : sPar} {yJ : sJou} {yM1 : Int32} {yM2 : Int32} {yM3 : Int32} (hf : f_X7_pay fu x1 x2 uA uP uC uD uJ ur ut ud ug uM1 uM2 uM3 = some (ec, rr, yA, yP, yJ, yM1, yM2, yM3)) : xTl l κ yX7_pay cX7_pay 3 (some .long) (xR 3 1 6) [.ref (xAd κ 234), .int x1, .int x2] (upA uA 0 (uP, uC, uD, uJ, ur, ut, ud, ug), (uT0, uT1, uT2, uT3, uT4, uT5, uT6, uT7, uT8), (uG0, uG1, uG2), (uM0, uM1, uM2, uM3, uM4), wZ) (upA yA 0 (yP, uC, uD, yJ, ur, ut, ud, ug), (uT0, uT1, uT2, uT3, uT4, uT5, uT6, uT7, uT8), (uG0, uG1, uG2), (uM0, yM1, yM2, yM3, uM4), wZ) ec rr := by
  unfold f_X7_pay at hf
  refine xTl_of pn_X7 (Nat.le_of_ble_eq_true rfl) ?_
  intro A p e s m args below meth c ls Q hlt hc hw hl K KX KO
  have hc : xC κ A p s m args meth c cX7_pay RX7 3 (some .long) := hc
  have hx := hc.1.1
  have hb := hc.1.2.1
  have hl : lv_has ls 3 [(0, .ref (xAd κ 234)), (1, .int x1), (2, .int x2)] := hl
  refine lv_aload_n hx hb dX7_pay_0 rfl (lv_at hl 0 rfl) ?_
  refine lv_aload_n hx hb dX7_pay_1 rfl (lv_at hl 0 rfl) ?_
  refine x_get (v := .ref (xAd κ (26 * 0))) hc hw co_234 fX7_10 rfl dX7_pay_2 ?_
  refine lv_iload_n hx hb dX7_pay_5 rfl (lv_at hl 1 rfl) ?_
  refine lv_iload_n hx hb dX7_pay_6 rfl (lv_at hl 2 rfl) ?_
  obtain ⟨v1, h2, hf⟩ := xb1_of hf
  refine x_calliV (As := [.int x1, .int x2]) (rest := [.ref (xAd κ 234)]) (σ' := (upA uA 0 (uP, uC, uD, uJ, ur, ut, ud, ug), (uT0, uT1, uT2, uT3, uT4, uT5, uT6, uT7, uT8), (uG0, uG1, uG2), (uM0, uM1, uM2, uM3, uM4), wZ)) hc hw hl.1 (m_X0_faultOfPayment z9 h2) kX7_180 (ca_0 z9) rfl rfl ⟨rfl, rfl⟩ ⟨Nat.le_of_ble_eq_true rfl, Nat.le_of_ble_eq_true rfl⟩ ⟨Nat.zero_le _, Nat.zero_le _⟩ (Nat.le_of_ble_eq_true rfl) dX7_pay_7 (fun H locs hw => ?_)
  obtain ⟨e3, uM3_4, h5, hf⟩ := xb2_of hf
  refine x_tcallvV (As := [.int v1]) (rest := []) (σ' := (upA uA 0 (uP, uC, uD, uJ, ur, ut, ud, ug), (uT0, uT1, uT2, uT3, uT4, uT5, uT6, uT7, uT8), (uG0, uG1, uG2), (uM0, uM1, uM2, uM3_4, uM4), wZ)) hc hw hl.1 hlt (m_X7_refuse h5) kX7_91 co_234 rfl rfl ⟨rfl, rfl⟩ ⟨Nat.le_of_ble_eq_true rfl, Nat.le_of_ble_eq_true rfl⟩ ⟨Nat.le_of_ble_eq_true rfl, Nat.le_of_ble_eq_true rfl⟩ (Nat.le_of_ble_eq_true rfl) dX7_pay_10 (fun c6 H locs q ce hw q1 q2 q3 => ?_) (fun c6 H locs hw => ?_)
  · have hf := xif_f c6 hf
    cases hf
    exact KO _ _ _ _ _ _ _ _ _ (Nat.le_refl _) (Nat.le_refl _) c6 hw q1 q2 q3
  · have hf := xif_t c6 hf
    refine lv_aload_n hx hb dX7_pay_13 rfl (lv_at hl 0 rfl) ?_
    obtain ⟨uA_7, uM1_8, uM2_9, h10, hf⟩ := xb3_of hf
    refine x_callvV (As := []) (rest := []) (σ' := (upA uA_7 0 (uP, uC, uD, uJ, ur, ut, ud, ug), (uT0, uT1, uT2, uT3, uT4, uT5, uT6, uT7, uT8), (uG0, uG1, uG2), (uM0, uM1_8, uM2_9, uM3_4, uM4), wZ)) hc hw hl.1 (m_X7_remember h10) kX7_80 co_234 rfl rfl ⟨rfl, rfl⟩ ⟨Nat.le_of_ble_eq_true rfl, Nat.le_of_ble_eq_true rfl⟩ ⟨Nat.le_of_ble_eq_true rfl, Nat.le_of_ble_eq_true rfl⟩ (Nat.le_of_ble_eq_true rfl) dX7_pay_14 (fun H locs hw => ?_)
    refine lv_aload_n hx hb dX7_pay_17 rfl (lv_at hl 0 rfl) ?_
    refine x_get (v := .ref (xAd κ (26 * 0))) hc hw co_234 fX7_10 rfl dX7_pay_18 ?_
    refine lv_iload_n hx hb dX7_pay_21 rfl (lv_at hl 1 rfl) ?_
    refine lv_iload_n hx hb dX7_pay_22 rfl (lv_at hl 2 rfl) ?_
    refine lv_i2l (v := x2.toInt64) hx hb dX7_pay_23 rfl ?_
    obtain ⟨uP_11, uJ_12, h13, hf⟩ := xb2_of hf
    refine x_callvV (As := [.int x1, .long x2.toInt64]) (rest := []) (σ' := (upA uA_7 0 (uP_11, uC, uD, uJ_12, ur, ut, ud, ug), (uT0, uT1, uT2, uT3, uT4, uT5, uT6, uT7, uT8), (uG0, uG1, uG2), (uM0, uM1_8, uM2_9, uM3_4, uM4), wZ)) hc hw hl.1 (m_X0_makePayment z9 h13) kX7_183 (ca_0 z9) rfl rfl ⟨rfl, rfl⟩ ⟨Nat.le_of_ble_eq_true rfl, Nat.le_of_ble_eq_true rfl⟩ ⟨Nat.le_of_ble_eq_true rfl, Nat.le_of_ble_eq_true rfl⟩ (Nat.le_of_ble_eq_true rfl) dX7_pay_24 (fun H locs hw => ?_)
    refine lv_aload_n hx hb dX7_pay_27 rfl (lv_at hl 0 rfl) ?_
    refine x_get (v := .ref (xAd κ (26 * 0))) hc hw co_234 fX7_10 rfl dX7_pay_28 ?_
    refine x_get (v := .ref (xAd κ (26 * 0 + 1))) hc hw (ca_0 z9) fX7_54 rfl dX7_pay_31 ?_
    refine lv_iload_n hx hb dX7_pay_34 rfl (lv_at hl 1 rfl) ?_
    obtain ⟨v14, h15, hf⟩ := xb1_of hf
    refine x_calllV (As := [.int x1]) (rest := []) (σ' := (upA uA_7 0 (uP_11, uC, uD, uJ_12, ur, ut, ud, ug), (uT0, uT1, uT2, uT3, uT4, uT5, uT6, uT7, uT8), (uG0, uG1, uG2), (uM0, uM1_8, uM2_9, uM3_4, uM4), wZ)) hc hw hl.1 (m_X4_heldFor z9 h15) kX7_187 (ca_1 z9) rfl rfl ⟨rfl, rfl⟩ ⟨Nat.le_of_ble_eq_true rfl, Nat.le_of_ble_eq_true rfl⟩ ⟨Nat.le_of_ble_eq_true rfl, Nat.le_of_ble_eq_true rfl⟩ (Nat.le_of_ble_eq_true rfl) dX7_pay_35 (fun H locs hw => ?_)
    cases hf
    exact K _ _ _ _ _ _ (by decide) (by decide) dX7_pay_38 rfl hw
def f_X7_payFor (fu : Nat) (x1 : Int32) (x2 : Int32) (uA : Nat → sAcc) (uP : sPar) (uC : sCla) (uD : sDeb) (uJ : sJou) (ur : xF32) (ut : xF32) (ud : Int32) (ug : Int32) (uM1 : Int32) (uM2 : Int32) (uM3 : Int32) : Option (Nat × Int64 × (Nat → sAcc) × sPar × sDeb × sJou × Int32 × Int32 × Int32) :=
  xb1 (f_X0_faultOfPaymentFor x1 x2 uP) fun v1 => (xb2 (f_X7_refuse v1 uM3) fun e3 uM3_4 => (if e3 = 0 then (xb3 (f_X7_remember uA uP uC uD uJ ur ut ud ug uM1 uM2) fun uA_7 uM1_8 uM2_9 => (xb4 (f_X0_makePaymentFor fu x1 x2 uP uD uJ) fun v11 uP_12 uD_13 uJ_14 => (some (0, v11, uA_7, uP_12, uD_13, uJ_14, uM1_8, uM2_9, uM3_4)))) else (some (e3, 0, uA, uP, uD, uJ, uM1, uM2, uM3_4))))
set_option maxHeartbeats 4000000 in
set_option maxRecDepth 100000 in
theorem m_X7_payFor {l : Launch} {κ : xKt} {wZ : sRef × sOut} {fu : Nat} {x1 : Int32} {x2 : Int32} {uA : Nat → sAcc} {uP : sPar} {uC : sCla} {uD : sDeb} {uJ : sJou} {ur : xF32} {ut : xF32} {ud : Int32} {ug : Int32} {uT0 : Int32} {uT1 : xF32} {uT2 : Int32} {uT3 : Int32} {uT4 : Int32} {uT5 : xF32} {uT6 : xF32} {uT7 : xF32} {uT8 : xF32} {uG0 : Int32} {uG1 : xF32} {uG2 : xF32} {uM0 : Int32} {uM1 : Int32} {uM2 : Int32} {uM3 : Int32} {uM4 : Int32} {ec : Nat} {rr : Int64} {yA : Nat → sAcc} {yP : sPar} {yD : sDeb} {yJ : sJou} {yM1 : Int32} {yM2 : Int32} {yM3 : Int32} (hf : f_X7_payFor fu x1 x2 uA uP uC uD uJ ur ut ud ug uM1 uM2 uM3 = some (ec, rr, yA, yP, yD, yJ, yM1, yM2, yM3)) : xTl l κ yX7_payFor cX7_payFor 3 (some .long) (xR 4 1 6) [.ref (xAd κ 234), .int x1, .int x2] (upA uA 0 (uP, uC, uD, uJ, ur, ut, ud, ug), (uT0, uT1, uT2, uT3, uT4, uT5, uT6, uT7, uT8), (uG0, uG1, uG2), (uM0, uM1, uM2, uM3, uM4), wZ) (upA yA 0 (yP, uC, yD, yJ, ur, ut, ud, ug), (uT0, uT1, uT2, uT3, uT4, uT5, uT6, uT7, uT8), (uG0, uG1, uG2), (uM0, yM1, yM2, yM3, uM4), wZ) ec rr := by
  unfold f_X7_payFor at hf
  refine xTl_of pn_X7 (Nat.le_of_ble_eq_true rfl) ?_
  intro A p e s m args below meth c ls Q hlt hc hw hl K KX KO
  have hc : xC κ A p s m args meth c cX7_payFor RX7 3 (some .long) := hc
  have hx := hc.1.1
  have hb := hc.1.2.1
  have hl : lv_has ls 3 [(0, .ref (xAd κ 234)), (1, .int x1), (2, .int x2)] := hl
  refine lv_aload_n hx hb dX7_payFor_0 rfl (lv_at hl 0 rfl) ?_
  refine lv_aload_n hx hb dX7_payFor_1 rfl (lv_at hl 0 rfl) ?_
  refine x_get (v := .ref (xAd κ (26 * 0))) hc hw co_234 fX7_10 rfl dX7_payFor_2 ?_
  refine lv_iload_n hx hb dX7_payFor_5 rfl (lv_at hl 1 rfl) ?_
  refine lv_iload_n hx hb dX7_payFor_6 rfl (lv_at hl 2 rfl) ?_
  obtain ⟨v1, h2, hf⟩ := xb1_of hf
  refine x_calliV (As := [.int x1, .int x2]) (rest := [.ref (xAd κ 234)]) (σ' := (upA uA 0 (uP, uC, uD, uJ, ur, ut, ud, ug), (uT0, uT1, uT2, uT3, uT4, uT5, uT6, uT7, uT8), (uG0, uG1, uG2), (uM0, uM1, uM2, uM3, uM4), wZ)) hc hw hl.1 (m_X0_faultOfPaymentFor z9 h2) kX7_190 (ca_0 z9) rfl rfl ⟨rfl, rfl⟩ ⟨Nat.le_of_ble_eq_true rfl, Nat.le_of_ble_eq_true rfl⟩ ⟨Nat.zero_le _, Nat.zero_le _⟩ (Nat.le_of_ble_eq_true rfl) dX7_payFor_7 (fun H locs hw => ?_)
  obtain ⟨e3, uM3_4, h5, hf⟩ := xb2_of hf
  refine x_tcallvV (As := [.int v1]) (rest := []) (σ' := (upA uA 0 (uP, uC, uD, uJ, ur, ut, ud, ug), (uT0, uT1, uT2, uT3, uT4, uT5, uT6, uT7, uT8), (uG0, uG1, uG2), (uM0, uM1, uM2, uM3_4, uM4), wZ)) hc hw hl.1 hlt (m_X7_refuse h5) kX7_91 co_234 rfl rfl ⟨rfl, rfl⟩ ⟨Nat.le_of_ble_eq_true rfl, Nat.le_of_ble_eq_true rfl⟩ ⟨Nat.le_of_ble_eq_true rfl, Nat.le_of_ble_eq_true rfl⟩ (Nat.le_of_ble_eq_true rfl) dX7_payFor_10 (fun c6 H locs q ce hw q1 q2 q3 => ?_) (fun c6 H locs hw => ?_)
  · have hf := xif_f c6 hf
    cases hf
    exact KO _ _ _ _ _ _ _ _ _ (Nat.le_refl _) (Nat.le_refl _) c6 hw q1 q2 q3
  · have hf := xif_t c6 hf
    refine lv_aload_n hx hb dX7_payFor_13 rfl (lv_at hl 0 rfl) ?_
    obtain ⟨uA_7, uM1_8, uM2_9, h10, hf⟩ := xb3_of hf
    refine x_callvV (As := []) (rest := []) (σ' := (upA uA_7 0 (uP, uC, uD, uJ, ur, ut, ud, ug), (uT0, uT1, uT2, uT3, uT4, uT5, uT6, uT7, uT8), (uG0, uG1, uG2), (uM0, uM1_8, uM2_9, uM3_4, uM4), wZ)) hc hw hl.1 (m_X7_remember h10) kX7_80 co_234 rfl rfl ⟨rfl, rfl⟩ ⟨Nat.le_of_ble_eq_true rfl, Nat.le_of_ble_eq_true rfl⟩ ⟨Nat.le_of_ble_eq_true rfl, Nat.le_of_ble_eq_true rfl⟩ (Nat.le_of_ble_eq_true rfl) dX7_payFor_14 (fun H locs hw => ?_)
    refine lv_aload_n hx hb dX7_payFor_17 rfl (lv_at hl 0 rfl) ?_
    refine x_get (v := .ref (xAd κ (26 * 0))) hc hw co_234 fX7_10 rfl dX7_payFor_18 ?_
    refine lv_iload_n hx hb dX7_payFor_21 rfl (lv_at hl 1 rfl) ?_
    refine lv_iload_n hx hb dX7_payFor_22 rfl (lv_at hl 2 rfl) ?_
    obtain ⟨v11, uP_12, uD_13, uJ_14, h15, hf⟩ := xb4_of hf
    refine x_calllV (As := [.int x1, .int x2]) (rest := []) (σ' := (upA uA_7 0 (uP_12, uC, uD_13, uJ_14, ur, ut, ud, ug), (uT0, uT1, uT2, uT3, uT4, uT5, uT6, uT7, uT8), (uG0, uG1, uG2), (uM0, uM1_8, uM2_9, uM3_4, uM4), wZ)) hc hw hl.1 (m_X0_makePaymentFor z9 h15) kX7_193 (ca_0 z9) rfl rfl ⟨rfl, rfl⟩ ⟨Nat.le_of_ble_eq_true rfl, Nat.le_of_ble_eq_true rfl⟩ ⟨Nat.le_of_ble_eq_true rfl, Nat.le_of_ble_eq_true rfl⟩ (Nat.le_of_ble_eq_true rfl) dX7_payFor_23 (fun H locs hw => ?_)
    cases hf
    exact K _ _ _ _ _ _ (by decide) (by decide) dX7_payFor_26 rfl hw
def f_X7_takeFees (fu : Nat) (uA : Nat → sAcc) (uP : sPar) (uC : sCla) (uD : sDeb) (uJ : sJou) (ur : xF32) (ut : xF32) (ud : Int32) (ug : Int32) (uM1 : Int32) (uM2 : Int32) : Option (Int64 × (Nat → sAcc) × sPar × sJou × Int32 × Int32) :=
  xb3 (f_X7_remember uA uP uC uD uJ ur ut ud ug uM1 uM2) fun uA_1 uM1_2 uM2_3 => (xb3 (f_X0_takeAllFees fu uP uC uJ ut) fun v5 uP_6 uJ_7 => (some (v5, uA_1, uP_6, uJ_7, uM1_2, uM2_3)))
set_option maxHeartbeats 4000000 in
set_option maxRecDepth 100000 in
theorem m_X7_takeFees {l : Launch} {κ : xKt} {wZ : sRef × sOut} {fu : Nat} {uA : Nat → sAcc} {uP : sPar} {uC : sCla} {uD : sDeb} {uJ : sJou} {ur : xF32} {ut : xF32} {ud : Int32} {ug : Int32} {uT0 : Int32} {uT1 : xF32} {uT2 : Int32} {uT3 : Int32} {uT4 : Int32} {uT5 : xF32} {uT6 : xF32} {uT7 : xF32} {uT8 : xF32} {uG0 : Int32} {uG1 : xF32} {uG2 : xF32} {uM0 : Int32} {uM1 : Int32} {uM2 : Int32} {uM3 : Int32} {uM4 : Int32} {rr : Int64} {yA : Nat → sAcc} {yP : sPar} {yJ : sJou} {yM1 : Int32} {yM2 : Int32} (hf : f_X7_takeFees fu uA uP uC uD uJ ur ut ud ug uM1 uM2 = some (rr, yA, yP, yJ, yM1, yM2)) : xMl l κ yX7_takeFees cX7_takeFees 1 (some .long) (xR 6 0 0) [.ref (xAd κ 234)] (upA uA 0 (uP, uC, uD, uJ, ur, ut, ud, ug), (uT0, uT1, uT2, uT3, uT4, uT5, uT6, uT7, uT8), (uG0, uG1, uG2), (uM0, uM1, uM2, uM3, uM4), wZ) (upA yA 0 (yP, uC, uD, yJ, ur, ut, ud, ug), (uT0, uT1, uT2, uT3, uT4, uT5, uT6, uT7, uT8), (uG0, uG1, uG2), (uM0, yM1, yM2, uM3, uM4), wZ) rr := by
  unfold f_X7_takeFees at hf
  refine xMl_of pn_X7 (Nat.le_of_ble_eq_true rfl) ⟨rfl, rfl⟩ ?_
  intro A p e s m args below meth c ls Q hc hw hl K
  have hc : xC κ A p s m args meth c cX7_takeFees RX7 1 (some .long) := hc
  have hx := hc.1.1
  have hb := hc.1.2.1
  have hl : lv_has ls 1 [(0, .ref (xAd κ 234))] := hl
  refine lv_aload_n hx hb dX7_takeFees_0 rfl (lv_at hl 0 rfl) ?_
  obtain ⟨uA_1, uM1_2, uM2_3, h4, hf⟩ := xb3_of hf
  refine x_callvV (As := []) (rest := []) (σ' := (upA uA_1 0 (uP, uC, uD, uJ, ur, ut, ud, ug), (uT0, uT1, uT2, uT3, uT4, uT5, uT6, uT7, uT8), (uG0, uG1, uG2), (uM0, uM1_2, uM2_3, uM3, uM4), wZ)) hc hw hl.1 (m_X7_remember h4) kX7_80 co_234 rfl rfl ⟨rfl, rfl⟩ ⟨Nat.le_of_ble_eq_true rfl, Nat.le_of_ble_eq_true rfl⟩ ⟨Nat.zero_le _, Nat.zero_le _⟩ (Nat.le_of_ble_eq_true rfl) dX7_takeFees_1 (fun H locs hw => ?_)
  refine lv_aload_n hx hb dX7_takeFees_4 rfl (lv_at hl 0 rfl) ?_
  refine x_get (v := .ref (xAd κ (26 * 0))) hc hw co_234 fX7_10 rfl dX7_takeFees_5 ?_
  obtain ⟨v5, uP_6, uJ_7, h8, hf⟩ := xb3_of hf
  refine x_calllV (As := []) (rest := []) (σ' := (upA uA_1 0 (uP_6, uC, uD, uJ_7, ur, ut, ud, ug), (uT0, uT1, uT2, uT3, uT4, uT5, uT6, uT7, uT8), (uG0, uG1, uG2), (uM0, uM1_2, uM2_3, uM3, uM4), wZ)) hc hw hl.1 (m_X0_takeAllFees z9 h8) kX7_196 (ca_0 z9) rfl rfl ⟨rfl, rfl⟩ ⟨Nat.le_of_ble_eq_true rfl, Nat.le_of_ble_eq_true rfl⟩ ⟨Nat.zero_le _, Nat.zero_le _⟩ (Nat.le_of_ble_eq_true rfl) dX7_takeFees_8 (fun H locs hw => ?_)
  cases hf
  exact K _ _ _ _ dX7_takeFees_11 hw
def f_X7_giveBack (fu : Nat) (uA : Nat → sAcc) (uP : sPar) (uC : sCla) (uD : sDeb) (uJ : sJou) (ur : xF32) (ut : xF32) (ud : Int32) (ug : Int32) (uM1 : Int32) (uM2 : Int32) (uM3 : Int32) : Option (Nat × Int64 × (Nat → sAcc) × sPar × sJou × Int32 × Int32 × Int32) :=
  if 3 ≤ ug then (xb2 (f_X7_refuse 0 uM3) fun e2 uM3_3 => (if e2 = 0 then (xb3 (f_X7_remember uA uP uC uD uJ ur ut ud ug uM1 uM2) fun uA_6 uM1_7 uM2_8 => (xb3 (f_X0_returnAll fu uP uC uJ ut) fun v10 uP_11 uJ_12 => (some (0, v10, uA_6, uP_11, uJ_12, uM1_7, uM2_8, uM3_3)))) else (some (e2, 0, uA, uP, uJ, uM1, uM2, uM3_3)))) else (xb2 (f_X7_refuse 6 uM3) fun e14 uM3_15 => (if e14 = 0 then (xb3 (f_X7_remember uA uP uC uD uJ ur ut ud ug uM1 uM2) fun uA_18 uM1_19 uM2_20 => (xb3 (f_X0_returnAll fu uP uC uJ ut) fun v22 uP_23 uJ_24 => (some (0, v22, uA_18, uP_23, uJ_24, uM1_19, uM2_20, uM3_15)))) else (some (e14, 0, uA, uP, uJ, uM1, uM2, uM3_15))))
set_option maxHeartbeats 4000000 in
set_option maxRecDepth 100000 in
theorem m_X7_giveBack {l : Launch} {κ : xKt} {wZ : sRef × sOut} {fu : Nat} {uA : Nat → sAcc} {uP : sPar} {uC : sCla} {uD : sDeb} {uJ : sJou} {ur : xF32} {ut : xF32} {ud : Int32} {ug : Int32} {uT0 : Int32} {uT1 : xF32} {uT2 : Int32} {uT3 : Int32} {uT4 : Int32} {uT5 : xF32} {uT6 : xF32} {uT7 : xF32} {uT8 : xF32} {uG0 : Int32} {uG1 : xF32} {uG2 : xF32} {uM0 : Int32} {uM1 : Int32} {uM2 : Int32} {uM3 : Int32} {uM4 : Int32} {ec : Nat} {rr : Int64} {yA : Nat → sAcc} {yP : sPar} {yJ : sJou} {yM1 : Int32} {yM2 : Int32} {yM3 : Int32} (hf : f_X7_giveBack fu uA uP uC uD uJ ur ut ud ug uM1 uM2 uM3 = some (ec, rr, yA, yP, yJ, yM1, yM2, yM3)) : xTl l κ yX7_giveBack cX7_giveBack 1 (some .long) (xR 6 1 6) [.ref (xAd κ 234)] (upA uA 0 (uP, uC, uD, uJ, ur, ut, ud, ug), (uT0, uT1, uT2, uT3, uT4, uT5, uT6, uT7, uT8), (uG0, uG1, uG2), (uM0, uM1, uM2, uM3, uM4), wZ) (upA yA 0 (yP, uC, uD, yJ, ur, ut, ud, ug), (uT0, uT1, uT2, uT3, uT4, uT5, uT6, uT7, uT8), (uG0, uG1, uG2), (uM0, yM1, yM2, yM3, uM4), wZ) ec rr := by
  unfold f_X7_giveBack at hf
  refine xTl_of pn_X7 (Nat.le_of_ble_eq_true rfl) ?_
  intro A p e s m args below meth c ls Q hlt hc hw hl K KX KO
  have hc : xC κ A p s m args meth c cX7_giveBack RX7 1 (some .long) := hc
  have hx := hc.1.1
  have hb := hc.1.2.1
  have hl : lv_has ls 1 [(0, .ref (xAd κ 234))] := hl
  refine lv_aload_n hx hb dX7_giveBack_0 rfl (lv_at hl 0 rfl) ?_
  refine lv_aload_n hx hb dX7_giveBack_1 rfl (lv_at hl 0 rfl) ?_
  refine x_get (v := .ref (xAd κ (26 * 0))) hc hw co_234 fX7_10 rfl dX7_giveBack_2 ?_
  refine x_get (v := .int ug) hc hw (ca_0 z9) fX7_199 rfl dX7_giveBack_5 ?_
  refine lv_iconst (v := 3) hx hb dX7_giveBack_8 (by decide) ?_
  refine lv_icmp_ge (tgt := 17) hx hb dX7_giveBack_9 (by decide) (fun c1 => ?_) (fun c1 => ?_)
  · have hf := xif_t c1 hf
    refine lv_iconst (v := 0) hx hb dX7_giveBack_17 (by decide) ?_
    obtain ⟨e2, uM3_3, h4, hf⟩ := xb2_of hf
    refine x_tcallvV (As := [.int 0]) (rest := []) (σ' := (upA uA 0 (uP, uC, uD, uJ, ur, ut, ud, ug), (uT0, uT1, uT2, uT3, uT4, uT5, uT6, uT7, uT8), (uG0, uG1, uG2), (uM0, uM1, uM2, uM3_3, uM4), wZ)) hc hw hl.1 hlt (m_X7_refuse h4) kX7_91 co_234 rfl rfl ⟨rfl, rfl⟩ ⟨Nat.le_of_ble_eq_true rfl, Nat.le_of_ble_eq_true rfl⟩ ⟨Nat.le_of_ble_eq_true rfl, Nat.le_of_ble_eq_true rfl⟩ (Nat.le_of_ble_eq_true rfl) dX7_giveBack_18 (fun c5 H locs q ce hw q1 q2 q3 => ?_) (fun c5 H locs hw => ?_)
    · have hf := xif_f c5 hf
      cases hf
      exact KO _ _ _ _ _ _ _ _ _ (Nat.le_refl _) (Nat.le_refl _) c5 hw q1 q2 q3
    · have hf := xif_t c5 hf
      refine lv_aload_n hx hb dX7_giveBack_21 rfl (lv_at hl 0 rfl) ?_
      obtain ⟨uA_6, uM1_7, uM2_8, h9, hf⟩ := xb3_of hf
      refine x_callvV (As := []) (rest := []) (σ' := (upA uA_6 0 (uP, uC, uD, uJ, ur, ut, ud, ug), (uT0, uT1, uT2, uT3, uT4, uT5, uT6, uT7, uT8), (uG0, uG1, uG2), (uM0, uM1_7, uM2_8, uM3_3, uM4), wZ)) hc hw hl.1 (m_X7_remember h9) kX7_80 co_234 rfl rfl ⟨rfl, rfl⟩ ⟨Nat.le_of_ble_eq_true rfl, Nat.le_of_ble_eq_true rfl⟩ ⟨Nat.le_of_ble_eq_true rfl, Nat.le_of_ble_eq_true rfl⟩ (Nat.le_of_ble_eq_true rfl) dX7_giveBack_22 (fun H locs hw => ?_)
      refine lv_aload_n hx hb dX7_giveBack_25 rfl (lv_at hl 0 rfl) ?_
      refine x_get (v := .ref (xAd κ (26 * 0))) hc hw co_234 fX7_10 rfl dX7_giveBack_26 ?_
      obtain ⟨v10, uP_11, uJ_12, h13, hf⟩ := xb3_of hf
      refine x_calllV (As := []) (rest := []) (σ' := (upA uA_6 0 (uP_11, uC, uD, uJ_12, ur, ut, ud, ug), (uT0, uT1, uT2, uT3, uT4, uT5, uT6, uT7, uT8), (uG0, uG1, uG2), (uM0, uM1_7, uM2_8, uM3_3, uM4), wZ)) hc hw hl.1 (m_X0_returnAll z9 h13) kX7_202 (ca_0 z9) rfl rfl ⟨rfl, rfl⟩ ⟨Nat.le_of_ble_eq_true rfl, Nat.le_of_ble_eq_true rfl⟩ ⟨Nat.le_of_ble_eq_true rfl, Nat.le_of_ble_eq_true rfl⟩ (Nat.le_of_ble_eq_true rfl) dX7_giveBack_29 (fun H locs hw => ?_)
      cases hf
      exact K _ _ _ _ _ _ (by decide) (by decide) dX7_giveBack_32 rfl hw
  · have hf := xif_f c1 hf
    refine lv_bipush (v := 6) hx hb dX7_giveBack_12 (by decide) ?_
    refine lv_goto (tgt := 18) hx hb dX7_giveBack_14 (by decide) ?_
    obtain ⟨e14, uM3_15, h16, hf⟩ := xb2_of hf
    refine x_tcallvV (As := [.int 6]) (rest := []) (σ' := (upA uA 0 (uP, uC, uD, uJ, ur, ut, ud, ug), (uT0, uT1, uT2, uT3, uT4, uT5, uT6, uT7, uT8), (uG0, uG1, uG2), (uM0, uM1, uM2, uM3_15, uM4), wZ)) hc hw hl.1 hlt (m_X7_refuse h16) kX7_91 co_234 rfl rfl ⟨rfl, rfl⟩ ⟨Nat.le_of_ble_eq_true rfl, Nat.le_of_ble_eq_true rfl⟩ ⟨Nat.le_of_ble_eq_true rfl, Nat.le_of_ble_eq_true rfl⟩ (Nat.le_of_ble_eq_true rfl) dX7_giveBack_18 (fun c17 H locs q ce hw q1 q2 q3 => ?_) (fun c17 H locs hw => ?_)
    · have hf := xif_f c17 hf
      cases hf
      exact KO _ _ _ _ _ _ _ _ _ (Nat.le_refl _) (Nat.le_refl _) c17 hw q1 q2 q3
    · have hf := xif_t c17 hf
      refine lv_aload_n hx hb dX7_giveBack_21 rfl (lv_at hl 0 rfl) ?_
      obtain ⟨uA_18, uM1_19, uM2_20, h21, hf⟩ := xb3_of hf
      refine x_callvV (As := []) (rest := []) (σ' := (upA uA_18 0 (uP, uC, uD, uJ, ur, ut, ud, ug), (uT0, uT1, uT2, uT3, uT4, uT5, uT6, uT7, uT8), (uG0, uG1, uG2), (uM0, uM1_19, uM2_20, uM3_15, uM4), wZ)) hc hw hl.1 (m_X7_remember h21) kX7_80 co_234 rfl rfl ⟨rfl, rfl⟩ ⟨Nat.le_of_ble_eq_true rfl, Nat.le_of_ble_eq_true rfl⟩ ⟨Nat.le_of_ble_eq_true rfl, Nat.le_of_ble_eq_true rfl⟩ (Nat.le_of_ble_eq_true rfl) dX7_giveBack_22 (fun H locs hw => ?_)
      refine lv_aload_n hx hb dX7_giveBack_25 rfl (lv_at hl 0 rfl) ?_
      refine x_get (v := .ref (xAd κ (26 * 0))) hc hw co_234 fX7_10 rfl dX7_giveBack_26 ?_
      obtain ⟨v22, uP_23, uJ_24, h25, hf⟩ := xb3_of hf
      refine x_calllV (As := []) (rest := []) (σ' := (upA uA_18 0 (uP_23, uC, uD, uJ_24, ur, ut, ud, ug), (uT0, uT1, uT2, uT3, uT4, uT5, uT6, uT7, uT8), (uG0, uG1, uG2), (uM0, uM1_19, uM2_20, uM3_15, uM4), wZ)) hc hw hl.1 (m_X0_returnAll z9 h25) kX7_202 (ca_0 z9) rfl rfl ⟨rfl, rfl⟩ ⟨Nat.le_of_ble_eq_true rfl, Nat.le_of_ble_eq_true rfl⟩ ⟨Nat.le_of_ble_eq_true rfl, Nat.le_of_ble_eq_true rfl⟩ (Nat.le_of_ble_eq_true rfl) dX7_giveBack_29 (fun H locs hw => ?_)
      cases hf
      exact K _ _ _ _ _ _ (by decide) (by decide) dX7_giveBack_32 rfl hw
def f_X7_owed (fu : Nat) (x1 : Int32) (x2 : Int32) (uP : sPar) (uD : sDeb) : Option (Nat × Int64) :=
  xb1 (f_X4_hasBoth x1 x2 uP) fun v1 => (if v1 = 0 then (some (1, 0)) else (xb1 (f_X2_owedBy fu x1 x2 uD) fun v4 => (some (0, v4))))
set_option maxHeartbeats 4000000 in
set_option maxRecDepth 100000 in
theorem m_X7_owed {l : Launch} {κ : xKt} {wZ : sRef × sOut} {fu : Nat} {x1 : Int32} {x2 : Int32} {uA : Nat → sAcc} {uP : sPar} {uC : sCla} {uD : sDeb} {uJ : sJou} {ur : xF32} {ut : xF32} {ud : Int32} {ug : Int32} {uT0 : Int32} {uT1 : xF32} {uT2 : Int32} {uT3 : Int32} {uT4 : Int32} {uT5 : xF32} {uT6 : xF32} {uT7 : xF32} {uT8 : xF32} {uG0 : Int32} {uG1 : xF32} {uG2 : xF32} {uM0 : Int32} {uM1 : Int32} {uM2 : Int32} {uM3 : Int32} {uM4 : Int32} {ec : Nat} {rr : Int64} (hf : f_X7_owed fu x1 x2 uP uD = some (ec, rr)) : xTl l κ yX7_owed cX7_owed 3 (some .long) (xR 2 1 6) [.ref (xAd κ 234), .int x1, .int x2] (upA uA 0 (uP, uC, uD, uJ, ur, ut, ud, ug), (uT0, uT1, uT2, uT3, uT4, uT5, uT6, uT7, uT8), (uG0, uG1, uG2), (uM0, uM1, uM2, uM3, uM4), wZ) (upA uA 0 (uP, uC, uD, uJ, ur, ut, ud, ug), (uT0, uT1, uT2, uT3, uT4, uT5, uT6, uT7, uT8), (uG0, uG1, uG2), (uM0, uM1, uM2, uM3, uM4), wZ) ec rr := by
  unfold f_X7_owed at hf
  refine xTl_of pn_X7 (Nat.le_of_ble_eq_true rfl) ?_
  intro A p e s m args below meth c ls Q hlt hc hw hl K KX KO
  have hc : xC κ A p s m args meth c cX7_owed RX7 3 (some .long) := hc
  have hx := hc.1.1
  have hb := hc.1.2.1
  have hl : lv_has ls 3 [(0, .ref (xAd κ 234)), (1, .int x1), (2, .int x2)] := hl
  refine lv_aload_n hx hb dX7_owed_0 rfl (lv_at hl 0 rfl) ?_
  refine x_get (v := .ref (xAd κ (26 * 0))) hc hw co_234 fX7_10 rfl dX7_owed_1 ?_
  refine x_get (v := .ref (xAd κ (26 * 0 + 1))) hc hw (ca_0 z9) fX7_54 rfl dX7_owed_4 ?_
  refine lv_iload_n hx hb dX7_owed_7 rfl (lv_at hl 1 rfl) ?_
  refine lv_iload_n hx hb dX7_owed_8 rfl (lv_at hl 2 rfl) ?_
  obtain ⟨v1, h2, hf⟩ := xb1_of hf
  refine x_calliV (As := [.int x1, .int x2]) (rest := []) (σ' := (upA uA 0 (uP, uC, uD, uJ, ur, ut, ud, ug), (uT0, uT1, uT2, uT3, uT4, uT5, uT6, uT7, uT8), (uG0, uG1, uG2), (uM0, uM1, uM2, uM3, uM4), wZ)) hc hw hl.1 (m_X4_hasBoth z9 h2) kX7_205 (ca_1 z9) rfl rfl ⟨rfl, rfl⟩ ⟨Nat.le_of_ble_eq_true rfl, Nat.le_of_ble_eq_true rfl⟩ ⟨Nat.zero_le _, Nat.zero_le _⟩ (Nat.le_of_ble_eq_true rfl) dX7_owed_9 (fun H locs hw => ?_)
  refine lv_if_ne (tgt := 23) hx hb dX7_owed_12 (by decide) (fun c3 => ?_) (fun c3 => ?_)
  · have hf := xif_f c3 hf
    refine lv_aload_n hx hb dX7_owed_23 rfl (lv_at hl 0 rfl) ?_
    refine x_get (v := .ref (xAd κ (26 * 0))) hc hw co_234 fX7_10 rfl dX7_owed_24 ?_
    refine x_get (v := .ref (xAd κ (26 * 0 + 15))) hc hw (ca_0 z9) fX7_209 rfl dX7_owed_27 ?_
    refine lv_iload_n hx hb dX7_owed_30 rfl (lv_at hl 1 rfl) ?_
    refine lv_iload_n hx hb dX7_owed_31 rfl (lv_at hl 2 rfl) ?_
    obtain ⟨v4, h5, hf⟩ := xb1_of hf
    refine x_calllV (As := [.int x1, .int x2]) (rest := []) (σ' := (upA uA 0 (uP, uC, uD, uJ, ur, ut, ud, ug), (uT0, uT1, uT2, uT3, uT4, uT5, uT6, uT7, uT8), (uG0, uG1, uG2), (uM0, uM1, uM2, uM3, uM4), wZ)) hc hw hl.1 (m_X2_owedBy z9 h5) kX7_213 (ca_15 z9) rfl rfl ⟨rfl, rfl⟩ ⟨Nat.le_of_ble_eq_true rfl, Nat.le_of_ble_eq_true rfl⟩ ⟨Nat.zero_le _, Nat.zero_le _⟩ (Nat.le_of_ble_eq_true rfl) dX7_owed_32 (fun H locs hw => ?_)
    cases hf
    exact K _ _ _ _ _ _ (by decide) (by decide) dX7_owed_35 rfl hw
  · have hf := xif_t c3 hf
    cases hf
    exact KX _ _ _ _ _ _ _ (by decide) tX7_158 dX7_owed_15 dX7_owed_18 dX7_owed_19 dX7_owed_22 hl.1 (Nat.le_of_ble_eq_true rfl) hw
def f_X7_debt (x1 : Int32) (x2 : Int32) (uD : sDeb) (uM3 : Int32) : Option (Nat × Int64 × Int32) :=
  xb1 (f_X2_has x1 uD) fun v1 => (xb1 (f_X7_faultOfQuestion v1 x2 4) fun v3 => (xb2 (f_X7_refuse v3 uM3) fun e5 uM3_6 => (if e5 = 0 then (xb1 (f_X2_numberOf x1 x2 uD) fun v9 => (some (0, v9, uM3_6))) else (some (e5, 0, uM3_6)))))
set_option maxHeartbeats 4000000 in
set_option maxRecDepth 100000 in
theorem m_X7_debt {l : Launch} {κ : xKt} {wZ : sRef × sOut}  {x1 : Int32} {x2 : Int32} {uA : Nat → sAcc} {uP : sPar} {uC : sCla} {uD : sDeb} {uJ : sJou} {ur : xF32} {ut : xF32} {ud : Int32} {ug : Int32} {uT0 : Int32} {uT1 : xF32} {uT2 : Int32} {uT3 : Int32} {uT4 : Int32} {uT5 : xF32} {uT6 : xF32} {uT7 : xF32} {uT8 : xF32} {uG0 : Int32} {uG1 : xF32} {uG2 : xF32} {uM0 : Int32} {uM1 : Int32} {uM2 : Int32} {uM3 : Int32} {uM4 : Int32} {ec : Nat} {rr : Int64} {yM3 : Int32} (hf : f_X7_debt x1 x2 uD uM3 = some (ec, rr, yM3)) : xTl l κ yX7_debt cX7_debt 3 (some .long) (xR 2 1 6) [.ref (xAd κ 234), .int x1, .int x2] (upA uA 0 (uP, uC, uD, uJ, ur, ut, ud, ug), (uT0, uT1, uT2, uT3, uT4, uT5, uT6, uT7, uT8), (uG0, uG1, uG2), (uM0, uM1, uM2, uM3, uM4), wZ) (upA uA 0 (uP, uC, uD, uJ, ur, ut, ud, ug), (uT0, uT1, uT2, uT3, uT4, uT5, uT6, uT7, uT8), (uG0, uG1, uG2), (uM0, uM1, uM2, yM3, uM4), wZ) ec rr := by
  unfold f_X7_debt at hf
  refine xTl_of pn_X7 (Nat.le_of_ble_eq_true rfl) ?_
  intro A p e s m args below meth c ls Q hlt hc hw hl K KX KO
  have hc : xC κ A p s m args meth c cX7_debt RX7 3 (some .long) := hc
  have hx := hc.1.1
  have hb := hc.1.2.1
  have hl : lv_has ls 3 [(0, .ref (xAd κ 234)), (1, .int x1), (2, .int x2)] := hl
  refine lv_aload_n hx hb dX7_debt_0 rfl (lv_at hl 0 rfl) ?_
  refine lv_aload_n hx hb dX7_debt_1 rfl (lv_at hl 0 rfl) ?_
  refine x_get (v := .ref (xAd κ (26 * 0))) hc hw co_234 fX7_10 rfl dX7_debt_2 ?_
  refine x_get (v := .ref (xAd κ (26 * 0 + 15))) hc hw (ca_0 z9) fX7_209 rfl dX7_debt_5 ?_
  refine lv_iload_n hx hb dX7_debt_8 rfl (lv_at hl 1 rfl) ?_
  obtain ⟨v1, h2, hf⟩ := xb1_of hf
  refine x_calliV (As := [.int x1]) (rest := [.ref (xAd κ 234)]) (σ' := (upA uA 0 (uP, uC, uD, uJ, ur, ut, ud, ug), (uT0, uT1, uT2, uT3, uT4, uT5, uT6, uT7, uT8), (uG0, uG1, uG2), (uM0, uM1, uM2, uM3, uM4), wZ)) hc hw hl.1 (m_X2_has z9 h2) kX7_218 (ca_15 z9) rfl rfl ⟨rfl, rfl⟩ ⟨Nat.le_of_ble_eq_true rfl, Nat.le_of_ble_eq_true rfl⟩ ⟨Nat.zero_le _, Nat.zero_le _⟩ (Nat.le_of_ble_eq_true rfl) dX7_debt_9 (fun H locs hw => ?_)
  refine lv_iload_n hx hb dX7_debt_12 rfl (lv_at hl 2 rfl) ?_
  refine lv_iconst (v := 4) hx hb dX7_debt_13 (by decide) ?_
  obtain ⟨v3, h4, hf⟩ := xb1_of hf
  refine x_calliS (As := [.int v1, .int x2, .int 4]) (rest := [.ref (xAd κ 234)]) (σ' := (upA uA 0 (uP, uC, uD, uJ, ur, ut, ud, ug), (uT0, uT1, uT2, uT3, uT4, uT5, uT6, uT7, uT8), (uG0, uG1, uG2), (uM0, uM1, uM2, uM3, uM4), wZ)) hc hw hl.1 (m_X7_faultOfQuestion h4) kX7_105 rfl rfl ⟨rfl, rfl⟩ ⟨Nat.le_of_ble_eq_true rfl, Nat.le_of_ble_eq_true rfl⟩ ⟨Nat.zero_le _, Nat.zero_le _⟩ (Nat.le_of_ble_eq_true rfl) dX7_debt_14 (fun H locs hw => ?_)
  obtain ⟨e5, uM3_6, h7, hf⟩ := xb2_of hf
  refine x_tcallvV (As := [.int v3]) (rest := []) (σ' := (upA uA 0 (uP, uC, uD, uJ, ur, ut, ud, ug), (uT0, uT1, uT2, uT3, uT4, uT5, uT6, uT7, uT8), (uG0, uG1, uG2), (uM0, uM1, uM2, uM3_6, uM4), wZ)) hc hw hl.1 hlt (m_X7_refuse h7) kX7_91 co_234 rfl rfl ⟨rfl, rfl⟩ ⟨Nat.le_of_ble_eq_true rfl, Nat.le_of_ble_eq_true rfl⟩ ⟨Nat.le_of_ble_eq_true rfl, Nat.le_of_ble_eq_true rfl⟩ (Nat.le_of_ble_eq_true rfl) dX7_debt_17 (fun c8 H locs q ce hw q1 q2 q3 => ?_) (fun c8 H locs hw => ?_)
  · have hf := xif_f c8 hf
    cases hf
    exact KO _ _ _ _ _ _ _ _ _ (Nat.le_refl _) (Nat.le_refl _) c8 hw q1 q2 q3
  · have hf := xif_t c8 hf
    refine lv_aload_n hx hb dX7_debt_20 rfl (lv_at hl 0 rfl) ?_
    refine x_get (v := .ref (xAd κ (26 * 0))) hc hw co_234 fX7_10 rfl dX7_debt_21 ?_
    refine x_get (v := .ref (xAd κ (26 * 0 + 15))) hc hw (ca_0 z9) fX7_209 rfl dX7_debt_24 ?_
    refine lv_iload_n hx hb dX7_debt_27 rfl (lv_at hl 1 rfl) ?_
    refine lv_iload_n hx hb dX7_debt_28 rfl (lv_at hl 2 rfl) ?_
    obtain ⟨v9, h10, hf⟩ := xb1_of hf
    refine x_calllV (As := [.int x1, .int x2]) (rest := []) (σ' := (upA uA 0 (uP, uC, uD, uJ, ur, ut, ud, ug), (uT0, uT1, uT2, uT3, uT4, uT5, uT6, uT7, uT8), (uG0, uG1, uG2), (uM0, uM1, uM2, uM3_6, uM4), wZ)) hc hw hl.1 (m_X2_numberOf z9 h10) kX7_219 (ca_15 z9) rfl rfl ⟨rfl, rfl⟩ ⟨Nat.le_of_ble_eq_true rfl, Nat.le_of_ble_eq_true rfl⟩ ⟨Nat.le_of_ble_eq_true rfl, Nat.le_of_ble_eq_true rfl⟩ (Nat.le_of_ble_eq_true rfl) dX7_debt_29 (fun H locs hw => ?_)
    cases hf
    exact K _ _ _ _ _ _ (by decide) (by decide) dX7_debt_32 rfl hw
def f_X7_settle (fu : Nat) (x1 : Int32) (x2 : Int32) (x3 : Int32) (uA : Nat → sAcc) (uP : sPar) (uC : sCla) (uD : sDeb) (uJ : sJou) (ur : xF32) (ut : xF32) (ud : Int32) (ug : Int32) (uM1 : Int32) (uM2 : Int32) (uM3 : Int32) : Option (Nat × Int64 × (Nat → sAcc) × sDeb × sJou × Int32 × Int32 × Int32) :=
  xb1 (f_X0_faultOfSettlement fu x1 x2 x3 uP uD) fun v1 => (xb2 (f_X7_refuse v1 uM3) fun e3 uM3_4 => (if e3 = 0 then (xb3 (f_X7_remember uA uP uC uD uJ ur ut ud ug uM1 uM2) fun uA_7 uM1_8 uM2_9 => (xb2 (f_X0_makeSettlement fu x1 x2 x3 uD uJ) fun uD_11 uJ_12 => (xb1 (f_X2_owedBy fu x1 x2 uD_11) fun v14 => (some (0, v14, uA_7, uD_11, uJ_12, uM1_8, uM2_9, uM3_4))))) else (some (e3, 0, uA, uD, uJ, uM1, uM2, uM3_4))))
set_option maxHeartbeats 4000000 in
set_option maxRecDepth 100000 in
theorem m_X7_settle {l : Launch} {κ : xKt} {wZ : sRef × sOut} {fu : Nat} {x1 : Int32} {x2 : Int32} {x3 : Int32} {uA : Nat → sAcc} {uP : sPar} {uC : sCla} {uD : sDeb} {uJ : sJou} {ur : xF32} {ut : xF32} {ud : Int32} {ug : Int32} {uT0 : Int32} {uT1 : xF32} {uT2 : Int32} {uT3 : Int32} {uT4 : Int32} {uT5 : xF32} {uT6 : xF32} {uT7 : xF32} {uT8 : xF32} {uG0 : Int32} {uG1 : xF32} {uG2 : xF32} {uM0 : Int32} {uM1 : Int32} {uM2 : Int32} {uM3 : Int32} {uM4 : Int32} {ec : Nat} {rr : Int64} {yA : Nat → sAcc} {yD : sDeb} {yJ : sJou} {yM1 : Int32} {yM2 : Int32} {yM3 : Int32} (hf : f_X7_settle fu x1 x2 x3 uA uP uC uD uJ ur ut ud ug uM1 uM2 uM3 = some (ec, rr, yA, yD, yJ, yM1, yM2, yM3)) : xTl l κ yX7_settle cX7_settle 4 (some .long) (xR 3 1 6) [.ref (xAd κ 234), .int x1, .int x2, .int x3] (upA uA 0 (uP, uC, uD, uJ, ur, ut, ud, ug), (uT0, uT1, uT2, uT3, uT4, uT5, uT6, uT7, uT8), (uG0, uG1, uG2), (uM0, uM1, uM2, uM3, uM4), wZ) (upA yA 0 (uP, uC, yD, yJ, ur, ut, ud, ug), (uT0, uT1, uT2, uT3, uT4, uT5, uT6, uT7, uT8), (uG0, uG1, uG2), (uM0, yM1, yM2, yM3, uM4), wZ) ec rr := by
  unfold f_X7_settle at hf
  refine xTl_of pn_X7 (Nat.le_of_ble_eq_true rfl) ?_
  intro A p e s m args below meth c ls Q hlt hc hw hl K KX KO
  have hc : xC κ A p s m args meth c cX7_settle RX7 4 (some .long) := hc
  have hx := hc.1.1
  have hb := hc.1.2.1
  have hl : lv_has ls 4 [(0, .ref (xAd κ 234)), (1, .int x1), (2, .int x2), (3, .int x3)] := hl
  refine lv_aload_n hx hb dX7_settle_0 rfl (lv_at hl 0 rfl) ?_
  refine lv_aload_n hx hb dX7_settle_1 rfl (lv_at hl 0 rfl) ?_
  refine x_get (v := .ref (xAd κ (26 * 0))) hc hw co_234 fX7_10 rfl dX7_settle_2 ?_
  refine lv_iload_n hx hb dX7_settle_5 rfl (lv_at hl 1 rfl) ?_
  refine lv_iload_n hx hb dX7_settle_6 rfl (lv_at hl 2 rfl) ?_
  refine lv_iload_n hx hb dX7_settle_7 rfl (lv_at hl 3 rfl) ?_
  obtain ⟨v1, h2, hf⟩ := xb1_of hf
  refine x_calliV (As := [.int x1, .int x2, .int x3]) (rest := [.ref (xAd κ 234)]) (σ' := (upA uA 0 (uP, uC, uD, uJ, ur, ut, ud, ug), (uT0, uT1, uT2, uT3, uT4, uT5, uT6, uT7, uT8), (uG0, uG1, uG2), (uM0, uM1, uM2, uM3, uM4), wZ)) hc hw hl.1 (m_X0_faultOfSettlement z9 h2) kX7_221 (ca_0 z9) rfl rfl ⟨rfl, rfl⟩ ⟨Nat.le_of_ble_eq_true rfl, Nat.le_of_ble_eq_true rfl⟩ ⟨Nat.zero_le _, Nat.zero_le _⟩ (Nat.le_of_ble_eq_true rfl) dX7_settle_8 (fun H locs hw => ?_)
  obtain ⟨e3, uM3_4, h5, hf⟩ := xb2_of hf
  refine x_tcallvV (As := [.int v1]) (rest := []) (σ' := (upA uA 0 (uP, uC, uD, uJ, ur, ut, ud, ug), (uT0, uT1, uT2, uT3, uT4, uT5, uT6, uT7, uT8), (uG0, uG1, uG2), (uM0, uM1, uM2, uM3_4, uM4), wZ)) hc hw hl.1 hlt (m_X7_refuse h5) kX7_91 co_234 rfl rfl ⟨rfl, rfl⟩ ⟨Nat.le_of_ble_eq_true rfl, Nat.le_of_ble_eq_true rfl⟩ ⟨Nat.le_of_ble_eq_true rfl, Nat.le_of_ble_eq_true rfl⟩ (Nat.le_of_ble_eq_true rfl) dX7_settle_11 (fun c6 H locs q ce hw q1 q2 q3 => ?_) (fun c6 H locs hw => ?_)
  · have hf := xif_f c6 hf
    cases hf
    exact KO _ _ _ _ _ _ _ _ _ (Nat.le_refl _) (Nat.le_refl _) c6 hw q1 q2 q3
  · have hf := xif_t c6 hf
    refine lv_aload_n hx hb dX7_settle_14 rfl (lv_at hl 0 rfl) ?_
    obtain ⟨uA_7, uM1_8, uM2_9, h10, hf⟩ := xb3_of hf
    refine x_callvV (As := []) (rest := []) (σ' := (upA uA_7 0 (uP, uC, uD, uJ, ur, ut, ud, ug), (uT0, uT1, uT2, uT3, uT4, uT5, uT6, uT7, uT8), (uG0, uG1, uG2), (uM0, uM1_8, uM2_9, uM3_4, uM4), wZ)) hc hw hl.1 (m_X7_remember h10) kX7_80 co_234 rfl rfl ⟨rfl, rfl⟩ ⟨Nat.le_of_ble_eq_true rfl, Nat.le_of_ble_eq_true rfl⟩ ⟨Nat.le_of_ble_eq_true rfl, Nat.le_of_ble_eq_true rfl⟩ (Nat.le_of_ble_eq_true rfl) dX7_settle_15 (fun H locs hw => ?_)
    refine lv_aload_n hx hb dX7_settle_18 rfl (lv_at hl 0 rfl) ?_
    refine x_get (v := .ref (xAd κ (26 * 0))) hc hw co_234 fX7_10 rfl dX7_settle_19 ?_
    refine lv_iload_n hx hb dX7_settle_22 rfl (lv_at hl 1 rfl) ?_
    refine lv_iload_n hx hb dX7_settle_23 rfl (lv_at hl 2 rfl) ?_
    refine lv_iload_n hx hb dX7_settle_24 rfl (lv_at hl 3 rfl) ?_
    obtain ⟨uD_11, uJ_12, h13, hf⟩ := xb2_of hf
    refine x_callvV (As := [.int x1, .int x2, .int x3]) (rest := []) (σ' := (upA uA_7 0 (uP, uC, uD_11, uJ_12, ur, ut, ud, ug), (uT0, uT1, uT2, uT3, uT4, uT5, uT6, uT7, uT8), (uG0, uG1, uG2), (uM0, uM1_8, uM2_9, uM3_4, uM4), wZ)) hc hw hl.1 (m_X0_makeSettlement z9 h13) kX7_224 (ca_0 z9) rfl rfl ⟨rfl, rfl⟩ ⟨Nat.le_of_ble_eq_true rfl, Nat.le_of_ble_eq_true rfl⟩ ⟨Nat.le_of_ble_eq_true rfl, Nat.le_of_ble_eq_true rfl⟩ (Nat.le_of_ble_eq_true rfl) dX7_settle_25 (fun H locs hw => ?_)
    refine lv_aload_n hx hb dX7_settle_28 rfl (lv_at hl 0 rfl) ?_
    refine x_get (v := .ref (xAd κ (26 * 0))) hc hw co_234 fX7_10 rfl dX7_settle_29 ?_
    refine x_get (v := .ref (xAd κ (26 * 0 + 15))) hc hw (ca_0 z9) fX7_209 rfl dX7_settle_32 ?_
    refine lv_iload_n hx hb dX7_settle_35 rfl (lv_at hl 1 rfl) ?_
    refine lv_iload_n hx hb dX7_settle_36 rfl (lv_at hl 2 rfl) ?_
    obtain ⟨v14, h15, hf⟩ := xb1_of hf
    refine x_calllV (As := [.int x1, .int x2]) (rest := []) (σ' := (upA uA_7 0 (uP, uC, uD_11, uJ_12, ur, ut, ud, ug), (uT0, uT1, uT2, uT3, uT4, uT5, uT6, uT7, uT8), (uG0, uG1, uG2), (uM0, uM1_8, uM2_9, uM3_4, uM4), wZ)) hc hw hl.1 (m_X2_owedBy z9 h15) kX7_213 (ca_15 z9) rfl rfl ⟨rfl, rfl⟩ ⟨Nat.le_of_ble_eq_true rfl, Nat.le_of_ble_eq_true rfl⟩ ⟨Nat.le_of_ble_eq_true rfl, Nat.le_of_ble_eq_true rfl⟩ (Nat.le_of_ble_eq_true rfl) dX7_settle_37 (fun H locs hw => ?_)
    cases hf
    exact K _ _ _ _ _ _ (by decide) (by decide) dX7_settle_40 rfl hw
def f_X7_offset (fu : Nat) (x1 : Int32) (x2 : Int32) (uA : Nat → sAcc) (uP : sPar) (uC : sCla) (uD : sDeb) (uJ : sJou) (ur : xF32) (ut : xF32) (ud : Int32) (ug : Int32) (uM1 : Int32) (uM2 : Int32) (uM3 : Int32) : Option (Nat × Int64 × (Nat → sAcc) × sDeb × sJou × Int32 × Int32 × Int32) :=
  xb1 (f_X0_faultOfOffset fu x1 x2 uP uD) fun v1 => (xb2 (f_X7_refuse v1 uM3) fun e3 uM3_4 => (if e3 = 0 then (xb3 (f_X7_remember uA uP uC uD uJ ur ut ud ug uM1 uM2) fun uA_7 uM1_8 uM2_9 => (xb3 (f_X0_makeOffset fu x1 x2 uD uJ) fun v11 uD_12 uJ_13 => (some (0, v11, uA_7, uD_12, uJ_13, uM1_8, uM2_9, uM3_4)))) else (some (e3, 0, uA, uD, uJ, uM1, uM2, uM3_4))))
set_option maxHeartbeats 4000000 in
set_option maxRecDepth 100000 in
theorem m_X7_offset {l : Launch} {κ : xKt} {wZ : sRef × sOut} {fu : Nat} {x1 : Int32} {x2 : Int32} {uA : Nat → sAcc} {uP : sPar} {uC : sCla} {uD : sDeb} {uJ : sJou} {ur : xF32} {ut : xF32} {ud : Int32} {ug : Int32} {uT0 : Int32} {uT1 : xF32} {uT2 : Int32} {uT3 : Int32} {uT4 : Int32} {uT5 : xF32} {uT6 : xF32} {uT7 : xF32} {uT8 : xF32} {uG0 : Int32} {uG1 : xF32} {uG2 : xF32} {uM0 : Int32} {uM1 : Int32} {uM2 : Int32} {uM3 : Int32} {uM4 : Int32} {ec : Nat} {rr : Int64} {yA : Nat → sAcc} {yD : sDeb} {yJ : sJou} {yM1 : Int32} {yM2 : Int32} {yM3 : Int32} (hf : f_X7_offset fu x1 x2 uA uP uC uD uJ ur ut ud ug uM1 uM2 uM3 = some (ec, rr, yA, yD, yJ, yM1, yM2, yM3)) : xTl l κ yX7_offset cX7_offset 3 (some .long) (xR 3 1 6) [.ref (xAd κ 234), .int x1, .int x2] (upA uA 0 (uP, uC, uD, uJ, ur, ut, ud, ug), (uT0, uT1, uT2, uT3, uT4, uT5, uT6, uT7, uT8), (uG0, uG1, uG2), (uM0, uM1, uM2, uM3, uM4), wZ) (upA yA 0 (uP, uC, yD, yJ, ur, ut, ud, ug), (uT0, uT1, uT2, uT3, uT4, uT5, uT6, uT7, uT8), (uG0, uG1, uG2), (uM0, yM1, yM2, yM3, uM4), wZ) ec rr := by
  unfold f_X7_offset at hf
  refine xTl_of pn_X7 (Nat.le_of_ble_eq_true rfl) ?_
  intro A p e s m args below meth c ls Q hlt hc hw hl K KX KO
  have hc : xC κ A p s m args meth c cX7_offset RX7 3 (some .long) := hc
  have hx := hc.1.1
  have hb := hc.1.2.1
  have hl : lv_has ls 3 [(0, .ref (xAd κ 234)), (1, .int x1), (2, .int x2)] := hl
  refine lv_aload_n hx hb dX7_offset_0 rfl (lv_at hl 0 rfl) ?_
  refine lv_aload_n hx hb dX7_offset_1 rfl (lv_at hl 0 rfl) ?_
  refine x_get (v := .ref (xAd κ (26 * 0))) hc hw co_234 fX7_10 rfl dX7_offset_2 ?_
  refine lv_iload_n hx hb dX7_offset_5 rfl (lv_at hl 1 rfl) ?_
  refine lv_iload_n hx hb dX7_offset_6 rfl (lv_at hl 2 rfl) ?_
  obtain ⟨v1, h2, hf⟩ := xb1_of hf
  refine x_calliV (As := [.int x1, .int x2]) (rest := [.ref (xAd κ 234)]) (σ' := (upA uA 0 (uP, uC, uD, uJ, ur, ut, ud, ug), (uT0, uT1, uT2, uT3, uT4, uT5, uT6, uT7, uT8), (uG0, uG1, uG2), (uM0, uM1, uM2, uM3, uM4), wZ)) hc hw hl.1 (m_X0_faultOfOffset z9 h2) kX7_228 (ca_0 z9) rfl rfl ⟨rfl, rfl⟩ ⟨Nat.le_of_ble_eq_true rfl, Nat.le_of_ble_eq_true rfl⟩ ⟨Nat.zero_le _, Nat.zero_le _⟩ (Nat.le_of_ble_eq_true rfl) dX7_offset_7 (fun H locs hw => ?_)
  obtain ⟨e3, uM3_4, h5, hf⟩ := xb2_of hf
  refine x_tcallvV (As := [.int v1]) (rest := []) (σ' := (upA uA 0 (uP, uC, uD, uJ, ur, ut, ud, ug), (uT0, uT1, uT2, uT3, uT4, uT5, uT6, uT7, uT8), (uG0, uG1, uG2), (uM0, uM1, uM2, uM3_4, uM4), wZ)) hc hw hl.1 hlt (m_X7_refuse h5) kX7_91 co_234 rfl rfl ⟨rfl, rfl⟩ ⟨Nat.le_of_ble_eq_true rfl, Nat.le_of_ble_eq_true rfl⟩ ⟨Nat.le_of_ble_eq_true rfl, Nat.le_of_ble_eq_true rfl⟩ (Nat.le_of_ble_eq_true rfl) dX7_offset_10 (fun c6 H locs q ce hw q1 q2 q3 => ?_) (fun c6 H locs hw => ?_)
  · have hf := xif_f c6 hf
    cases hf
    exact KO _ _ _ _ _ _ _ _ _ (Nat.le_refl _) (Nat.le_refl _) c6 hw q1 q2 q3
  · have hf := xif_t c6 hf
    refine lv_aload_n hx hb dX7_offset_13 rfl (lv_at hl 0 rfl) ?_
    obtain ⟨uA_7, uM1_8, uM2_9, h10, hf⟩ := xb3_of hf
    refine x_callvV (As := []) (rest := []) (σ' := (upA uA_7 0 (uP, uC, uD, uJ, ur, ut, ud, ug), (uT0, uT1, uT2, uT3, uT4, uT5, uT6, uT7, uT8), (uG0, uG1, uG2), (uM0, uM1_8, uM2_9, uM3_4, uM4), wZ)) hc hw hl.1 (m_X7_remember h10) kX7_80 co_234 rfl rfl ⟨rfl, rfl⟩ ⟨Nat.le_of_ble_eq_true rfl, Nat.le_of_ble_eq_true rfl⟩ ⟨Nat.le_of_ble_eq_true rfl, Nat.le_of_ble_eq_true rfl⟩ (Nat.le_of_ble_eq_true rfl) dX7_offset_14 (fun H locs hw => ?_)
    refine lv_aload_n hx hb dX7_offset_17 rfl (lv_at hl 0 rfl) ?_
    refine x_get (v := .ref (xAd κ (26 * 0))) hc hw co_234 fX7_10 rfl dX7_offset_18 ?_
    refine lv_iload_n hx hb dX7_offset_21 rfl (lv_at hl 1 rfl) ?_
    refine lv_iload_n hx hb dX7_offset_22 rfl (lv_at hl 2 rfl) ?_
    obtain ⟨v11, uD_12, uJ_13, h14, hf⟩ := xb3_of hf
    refine x_calllV (As := [.int x1, .int x2]) (rest := []) (σ' := (upA uA_7 0 (uP, uC, uD_12, uJ_13, ur, ut, ud, ug), (uT0, uT1, uT2, uT3, uT4, uT5, uT6, uT7, uT8), (uG0, uG1, uG2), (uM0, uM1_8, uM2_9, uM3_4, uM4), wZ)) hc hw hl.1 (m_X0_makeOffset z9 h14) kX7_231 (ca_0 z9) rfl rfl ⟨rfl, rfl⟩ ⟨Nat.le_of_ble_eq_true rfl, Nat.le_of_ble_eq_true rfl⟩ ⟨Nat.le_of_ble_eq_true rfl, Nat.le_of_ble_eq_true rfl⟩ (Nat.le_of_ble_eq_true rfl) dX7_offset_23 (fun H locs hw => ?_)
    cases hf
    exact K _ _ _ _ _ _ (by decide) (by decide) dX7_offset_26 rfl hw
def f_X7_ring (fu : Nat) (x1 : Int32) (uD : sDeb) (uG0 : Int32) (uG1 : xF32) (uG2 : xF32) : Option (Nat × Int32 × Int32 × xF32 × xF32) :=
  xb3 (f_X5_findFirst fu uD uG0 uG1 uG2) fun uG0_1 uG1_2 uG2_3 => (if x1 < 0 then (some (5, 0, uG0_1, uG1_2, uG2_3)) else (if x1 < uG0_1 then (xk (xin x1 6) (some (0, (uG1_2 x1.toNatClampNeg), uG0_1, uG1_2, uG2_3))) else (some (5, 0, uG0_1, uG1_2, uG2_3))))
set_option maxHeartbeats 4000000 in
set_option maxRecDepth 100000 in
theorem m_X7_ring {l : Launch} {κ : xKt} {wZ : sRef × sOut} {fu : Nat} {x1 : Int32} {uA : Nat → sAcc} {uP : sPar} {uC : sCla} {uD : sDeb} {uJ : sJou} {ur : xF32} {ut : xF32} {ud : Int32} {ug : Int32} {uT0 : Int32} {uT1 : xF32} {uT2 : Int32} {uT3 : Int32} {uT4 : Int32} {uT5 : xF32} {uT6 : xF32} {uT7 : xF32} {uT8 : xF32} {uG0 : Int32} {uG1 : xF32} {uG2 : xF32} {uM0 : Int32} {uM1 : Int32} {uM2 : Int32} {uM3 : Int32} {uM4 : Int32} {ec : Nat} {rr : Int32} {yG0 : Int32} {yG1 : xF32} {yG2 : xF32} (hf : f_X7_ring fu x1 uD uG0 uG1 uG2 = some (ec, rr, yG0, yG1, yG2)) : xTi l κ yX7_ring cX7_ring 2 (some .int) (xR 12 1 6) [.ref (xAd κ 234), .int x1] (upA uA 0 (uP, uC, uD, uJ, ur, ut, ud, ug), (uT0, uT1, uT2, uT3, uT4, uT5, uT6, uT7, uT8), (uG0, uG1, uG2), (uM0, uM1, uM2, uM3, uM4), wZ) (upA uA 0 (uP, uC, uD, uJ, ur, ut, ud, ug), (uT0, uT1, uT2, uT3, uT4, uT5, uT6, uT7, uT8), (yG0, yG1, yG2), (uM0, uM1, uM2, uM3, uM4), wZ) ec rr := by
  unfold f_X7_ring at hf
  refine xTi_of pn_X7 (Nat.le_of_ble_eq_true rfl) ?_
  intro A p e s m args below meth c ls Q hlt hc hw hl K KX KO
  have hc : xC κ A p s m args meth c cX7_ring RX7 2 (some .int) := hc
  have hx := hc.1.1
  have hb := hc.1.2.1
  have hl : lv_has ls 2 [(0, .ref (xAd κ 234)), (1, .int x1)] := hl
  refine lv_aload_n hx hb dX7_ring_0 rfl (lv_at hl 0 rfl) ?_
  refine x_get (v := .ref (xAd κ 242)) hc hw co_234 fX7_33 rfl dX7_ring_1 ?_
  refine lv_aload_n hx hb dX7_ring_4 rfl (lv_at hl 0 rfl) ?_
  refine x_get (v := .ref (xAd κ (26 * 0))) hc hw co_234 fX7_10 rfl dX7_ring_5 ?_
  refine x_get (v := .ref (xAd κ (26 * 0 + 15))) hc hw (ca_0 z9) fX7_209 rfl dX7_ring_8 ?_
  obtain ⟨uG0_1, uG1_2, uG2_3, h4, hf⟩ := xb3_of hf
  refine x_callvV (As := [.ref (xAd κ (26 * 0 + 15))]) (rest := []) (σ' := (upA uA 0 (uP, uC, uD, uJ, ur, ut, ud, ug), (uT0, uT1, uT2, uT3, uT4, uT5, uT6, uT7, uT8), (uG0_1, uG1_2, uG2_3), (uM0, uM1, uM2, uM3, uM4), wZ)) hc hw hl.1 (m_X5_findFirst z9 h4) kX7_234 co_242 rfl rfl ⟨rfl, rfl⟩ ⟨Nat.le_of_ble_eq_true rfl, Nat.le_of_ble_eq_true rfl⟩ ⟨Nat.zero_le _, Nat.zero_le _⟩ (Nat.le_of_ble_eq_true rfl) dX7_ring_11 (fun H locs hw => ?_)
  refine lv_iload_n hx hb dX7_ring_14 rfl (lv_at hl 1 rfl) ?_
  refine lv_if_lt (tgt := 29) hx hb dX7_ring_15 (by decide) (fun c5 => ?_) (fun c5 => ?_)
  · have hf := xif_t c5 hf
    cases hf
    exact KX _ _ _ _ _ _ _ (by decide) tX7_148 dX7_ring_29 dX7_ring_32 dX7_ring_33 dX7_ring_36 hl.1 (Nat.le_of_ble_eq_true rfl) hw
  · have hf := xif_f c5 hf
    refine lv_iload_n hx hb dX7_ring_18 rfl (lv_at hl 1 rfl) ?_
    refine lv_aload_n hx hb dX7_ring_19 rfl (lv_at hl 0 rfl) ?_
    refine x_get (v := .ref (xAd κ 242)) hc hw co_234 fX7_33 rfl dX7_ring_20 ?_
    refine x_get (v := .int uG0_1) hc hw co_242 fX7_238 rfl dX7_ring_23 ?_
    refine lv_icmp_lt (tgt := 37) hx hb dX7_ring_26 (by decide) (fun c6 => ?_) (fun c6 => ?_)
    · have hf := xif_t c6 hf
      refine lv_aload_n hx hb dX7_ring_37 rfl (lv_at hl 0 rfl) ?_
      refine x_get (v := .ref (xAd κ 242)) hc hw co_234 fX7_33 rfl dX7_ring_38 ?_
      refine x_get (v := .ref (xAd κ 243)) hc hw co_242 fX7_241 rfl dX7_ring_41 ?_
      refine lv_iload_n hx hb dX7_ring_44 rfl (lv_at hl 1 rfl) ?_
      obtain ⟨k7, hf⟩ := xk_of hf
      refine x_iald (n := 6) (f := uG1_2) hc hw co_243 k7 dX7_ring_45 ?_
      cases hf
      exact K _ _ _ _ _ _ (by decide) (by decide) dX7_ring_46 rfl rfl hw
    · have hf := xif_f c6 hf
      cases hf
      exact KX _ _ _ _ _ _ _ (by decide) tX7_148 dX7_ring_29 dX7_ring_32 dX7_ring_33 dX7_ring_36 hl.1 (Nat.le_of_ble_eq_true rfl) hw
def f_X7_clearRings (fu : Nat) (uA : Nat → sAcc) (uP : sPar) (uC : sCla) (uD : sDeb) (uJ : sJou) (ur : xF32) (ut : xF32) (ud : Int32) (ug : Int32) (uG0 : Int32) (uG1 : xF32) (uG2 : xF32) (uM1 : Int32) (uM2 : Int32) : Option (Int64 × (Nat → sAcc) × sDeb × sJou × Int32 × xF32 × xF32 × Int32 × Int32) :=
  xb3 (f_X7_remember uA uP uC uD uJ ur ut ud ug uM1 uM2) fun uA_1 uM1_2 uM2_3 => (xb6 (f_X0_clearAllRings fu uD uJ uG0 uG1 uG2) fun v5 uD_6 uJ_7 uG0_8 uG1_9 uG2_10 => (some (v5, uA_1, uD_6, uJ_7, uG0_8, uG1_9, uG2_10, uM1_2, uM2_3)))
set_option maxHeartbeats 4000000 in
set_option maxRecDepth 100000 in
theorem m_X7_clearRings {l : Launch} {κ : xKt} {wZ : sRef × sOut} {fu : Nat} {uA : Nat → sAcc} {uP : sPar} {uC : sCla} {uD : sDeb} {uJ : sJou} {ur : xF32} {ut : xF32} {ud : Int32} {ug : Int32} {uT0 : Int32} {uT1 : xF32} {uT2 : Int32} {uT3 : Int32} {uT4 : Int32} {uT5 : xF32} {uT6 : xF32} {uT7 : xF32} {uT8 : xF32} {uG0 : Int32} {uG1 : xF32} {uG2 : xF32} {uM0 : Int32} {uM1 : Int32} {uM2 : Int32} {uM3 : Int32} {uM4 : Int32} {rr : Int64} {yA : Nat → sAcc} {yD : sDeb} {yJ : sJou} {yG0 : Int32} {yG1 : xF32} {yG2 : xF32} {yM1 : Int32} {yM2 : Int32} (hf : f_X7_clearRings fu uA uP uC uD uJ ur ut ud ug uG0 uG1 uG2 uM1 uM2 = some (rr, yA, yD, yJ, yG0, yG1, yG2, yM1, yM2)) : xMl l κ yX7_clearRings cX7_clearRings 1 (some .long) (xR 13 0 0) [.ref (xAd κ 234)] (upA uA 0 (uP, uC, uD, uJ, ur, ut, ud, ug), (uT0, uT1, uT2, uT3, uT4, uT5, uT6, uT7, uT8), (uG0, uG1, uG2), (uM0, uM1, uM2, uM3, uM4), wZ) (upA yA 0 (uP, uC, yD, yJ, ur, ut, ud, ug), (uT0, uT1, uT2, uT3, uT4, uT5, uT6, uT7, uT8), (yG0, yG1, yG2), (uM0, yM1, yM2, uM3, uM4), wZ) rr := by
  unfold f_X7_clearRings at hf
  refine xMl_of pn_X7 (Nat.le_of_ble_eq_true rfl) ⟨rfl, rfl⟩ ?_
  intro A p e s m args below meth c ls Q hc hw hl K
  have hc : xC κ A p s m args meth c cX7_clearRings RX7 1 (some .long) := hc
  have hx := hc.1.1
  have hb := hc.1.2.1
  have hl : lv_has ls 1 [(0, .ref (xAd κ 234))] := hl
  refine lv_aload_n hx hb dX7_clearRings_0 rfl (lv_at hl 0 rfl) ?_
  obtain ⟨uA_1, uM1_2, uM2_3, h4, hf⟩ := xb3_of hf
  refine x_callvV (As := []) (rest := []) (σ' := (upA uA_1 0 (uP, uC, uD, uJ, ur, ut, ud, ug), (uT0, uT1, uT2, uT3, uT4, uT5, uT6, uT7, uT8), (uG0, uG1, uG2), (uM0, uM1_2, uM2_3, uM3, uM4), wZ)) hc hw hl.1 (m_X7_remember h4) kX7_80 co_234 rfl rfl ⟨rfl, rfl⟩ ⟨Nat.le_of_ble_eq_true rfl, Nat.le_of_ble_eq_true rfl⟩ ⟨Nat.zero_le _, Nat.zero_le _⟩ (Nat.le_of_ble_eq_true rfl) dX7_clearRings_1 (fun H locs hw => ?_)
  refine lv_aload_n hx hb dX7_clearRings_4 rfl (lv_at hl 0 rfl) ?_
  refine x_get (v := .ref (xAd κ (26 * 0))) hc hw co_234 fX7_10 rfl dX7_clearRings_5 ?_
  refine lv_aload_n hx hb dX7_clearRings_8 rfl (lv_at hl 0 rfl) ?_
  refine x_get (v := .ref (xAd κ 242)) hc hw co_234 fX7_33 rfl dX7_clearRings_9 ?_
  obtain ⟨v5, uD_6, uJ_7, uG0_8, uG1_9, uG2_10, h11, hf⟩ := xb6_of hf
  refine x_calllV (As := [.ref (xAd κ 242)]) (rest := []) (σ' := (upA uA_1 0 (uP, uC, uD_6, uJ_7, ur, ut, ud, ug), (uT0, uT1, uT2, uT3, uT4, uT5, uT6, uT7, uT8), (uG0_8, uG1_9, uG2_10), (uM0, uM1_2, uM2_3, uM3, uM4), wZ)) hc hw hl.1 (m_X0_clearAllRings z9 h11) kX7_244 (ca_0 z9) rfl rfl ⟨rfl, rfl⟩ ⟨Nat.le_of_ble_eq_true rfl, Nat.le_of_ble_eq_true rfl⟩ ⟨Nat.zero_le _, Nat.zero_le _⟩ (Nat.le_of_ble_eq_true rfl) dX7_clearRings_12 (fun H locs hw => ?_)
  cases hf
  exact K _ _ _ _ dX7_clearRings_15 hw
def f_X7_net (fu : Nat) (x1 : Int32) (uP : sPar) (uD : sDeb) : Option (Nat × Int64) :=
  xb1 (f_X4_has x1 uP) fun v1 => (if v1 = 0 then (some (1, 0)) else (xb1 (f_X2_allOwedTo fu x1 uD) fun v4 => (xb1 (f_X2_allOwedBy fu x1 uD) fun v6 => (some (0, (v4 - v6))))))
set_option maxHeartbeats 4000000 in
set_option maxRecDepth 100000 in
theorem m_X7_net {l : Launch} {κ : xKt} {wZ : sRef × sOut} {fu : Nat} {x1 : Int32} {uA : Nat → sAcc} {uP : sPar} {uC : sCla} {uD : sDeb} {uJ : sJou} {ur : xF32} {ut : xF32} {ud : Int32} {ug : Int32} {uT0 : Int32} {uT1 : xF32} {uT2 : Int32} {uT3 : Int32} {uT4 : Int32} {uT5 : xF32} {uT6 : xF32} {uT7 : xF32} {uT8 : xF32} {uG0 : Int32} {uG1 : xF32} {uG2 : xF32} {uM0 : Int32} {uM1 : Int32} {uM2 : Int32} {uM3 : Int32} {uM4 : Int32} {ec : Nat} {rr : Int64} (hf : f_X7_net fu x1 uP uD = some (ec, rr)) : xTl l κ yX7_net cX7_net 2 (some .long) (xR 2 1 6) [.ref (xAd κ 234), .int x1] (upA uA 0 (uP, uC, uD, uJ, ur, ut, ud, ug), (uT0, uT1, uT2, uT3, uT4, uT5, uT6, uT7, uT8), (uG0, uG1, uG2), (uM0, uM1, uM2, uM3, uM4), wZ) (upA uA 0 (uP, uC, uD, uJ, ur, ut, ud, ug), (uT0, uT1, uT2, uT3, uT4, uT5, uT6, uT7, uT8), (uG0, uG1, uG2), (uM0, uM1, uM2, uM3, uM4), wZ) ec rr := by
  unfold f_X7_net at hf
  refine xTl_of pn_X7 (Nat.le_of_ble_eq_true rfl) ?_
  intro A p e s m args below meth c ls Q hlt hc hw hl K KX KO
  have hc : xC κ A p s m args meth c cX7_net RX7 2 (some .long) := hc
  have hx := hc.1.1
  have hb := hc.1.2.1
  have hl : lv_has ls 2 [(0, .ref (xAd κ 234)), (1, .int x1)] := hl
  refine lv_aload_n hx hb dX7_net_0 rfl (lv_at hl 0 rfl) ?_
  refine x_get (v := .ref (xAd κ (26 * 0))) hc hw co_234 fX7_10 rfl dX7_net_1 ?_
  refine x_get (v := .ref (xAd κ (26 * 0 + 1))) hc hw (ca_0 z9) fX7_54 rfl dX7_net_4 ?_
  refine lv_iload_n hx hb dX7_net_7 rfl (lv_at hl 1 rfl) ?_
  obtain ⟨v1, h2, hf⟩ := xb1_of hf
  refine x_calliV (As := [.int x1]) (rest := []) (σ' := (upA uA 0 (uP, uC, uD, uJ, ur, ut, ud, ug), (uT0, uT1, uT2, uT3, uT4, uT5, uT6, uT7, uT8), (uG0, uG1, uG2), (uM0, uM1, uM2, uM3, uM4), wZ)) hc hw hl.1 (m_X4_has z9 h2) kX7_102 (ca_1 z9) rfl rfl ⟨rfl, rfl⟩ ⟨Nat.le_of_ble_eq_true rfl, Nat.le_of_ble_eq_true rfl⟩ ⟨Nat.zero_le _, Nat.zero_le _⟩ (Nat.le_of_ble_eq_true rfl) dX7_net_8 (fun H locs hw => ?_)
  refine lv_if_ne (tgt := 22) hx hb dX7_net_11 (by decide) (fun c3 => ?_) (fun c3 => ?_)
  · have hf := xif_f c3 hf
    refine lv_aload_n hx hb dX7_net_22 rfl (lv_at hl 0 rfl) ?_
    refine x_get (v := .ref (xAd κ (26 * 0))) hc hw co_234 fX7_10 rfl dX7_net_23 ?_
    refine x_get (v := .ref (xAd κ (26 * 0 + 15))) hc hw (ca_0 z9) fX7_209 rfl dX7_net_26 ?_
    refine lv_iload_n hx hb dX7_net_29 rfl (lv_at hl 1 rfl) ?_
    obtain ⟨v4, h5, hf⟩ := xb1_of hf
    refine x_calllV (As := [.int x1]) (rest := []) (σ' := (upA uA 0 (uP, uC, uD, uJ, ur, ut, ud, ug), (uT0, uT1, uT2, uT3, uT4, uT5, uT6, uT7, uT8), (uG0, uG1, uG2), (uM0, uM1, uM2, uM3, uM4), wZ)) hc hw hl.1 (m_X2_allOwedTo z9 h5) kX7_248 (ca_15 z9) rfl rfl ⟨rfl, rfl⟩ ⟨Nat.le_of_ble_eq_true rfl, Nat.le_of_ble_eq_true rfl⟩ ⟨Nat.zero_le _, Nat.zero_le _⟩ (Nat.le_of_ble_eq_true rfl) dX7_net_30 (fun H locs hw => ?_)
    refine lv_aload_n hx hb dX7_net_33 rfl (lv_at hl 0 rfl) ?_
    refine x_get (v := .ref (xAd κ (26 * 0))) hc hw co_234 fX7_10 rfl dX7_net_34 ?_
    refine x_get (v := .ref (xAd κ (26 * 0 + 15))) hc hw (ca_0 z9) fX7_209 rfl dX7_net_37 ?_
    refine lv_iload_n hx hb dX7_net_40 rfl (lv_at hl 1 rfl) ?_
    obtain ⟨v6, h7, hf⟩ := xb1_of hf
    refine x_calllV (As := [.int x1]) (rest := [.long v4]) (σ' := (upA uA 0 (uP, uC, uD, uJ, ur, ut, ud, ug), (uT0, uT1, uT2, uT3, uT4, uT5, uT6, uT7, uT8), (uG0, uG1, uG2), (uM0, uM1, uM2, uM3, uM4), wZ)) hc hw hl.1 (m_X2_allOwedBy z9 h7) kX7_251 (ca_15 z9) rfl rfl ⟨rfl, rfl⟩ ⟨Nat.le_of_ble_eq_true rfl, Nat.le_of_ble_eq_true rfl⟩ ⟨Nat.zero_le _, Nat.zero_le _⟩ (Nat.le_of_ble_eq_true rfl) dX7_net_41 (fun H locs hw => ?_)
    refine lv_lsub hx hb dX7_net_44 ?_
    cases hf
    exact K _ _ _ _ _ _ (by decide) (by decide) dX7_net_45 rfl hw
  · have hf := xif_t c3 hf
    cases hf
    exact KX _ _ _ _ _ _ _ (by decide) tX7_158 dX7_net_14 dX7_net_17 dX7_net_18 dX7_net_21 hl.1 (Nat.le_of_ble_eq_true rfl) hw
def f_X7_growsTo (x1 : Int32) (x2 : Int32) (uD : sDeb) (ur : xF32) (ug : Int32) : Option (Nat × Int32) :=
  xb1 (f_X2_has x1 uD) fun v1 => (if v1 = 0 then (some (1, 0)) else (xb1 (f_X7_isWithin x2 1 1000000000) fun v4 => (if v4 = 0 then (some (2, 0)) else (xk (xin ug 4) (xb1 (f_X2_daysUntil x1 x2.toInt64 (ur ug.toNatClampNeg) uD) fun v8 => (if v8 ≤ 3650 then (some (0, v8.toInt32)) else (some (5, 0))))))))
set_option maxHeartbeats 4000000 in
set_option maxRecDepth 100000 in
theorem m_X7_growsTo {l : Launch} {κ : xKt} {wZ : sRef × sOut}  {x1 : Int32} {x2 : Int32} {uA : Nat → sAcc} {uP : sPar} {uC : sCla} {uD : sDeb} {uJ : sJou} {ur : xF32} {ut : xF32} {ud : Int32} {ug : Int32} {uT0 : Int32} {uT1 : xF32} {uT2 : Int32} {uT3 : Int32} {uT4 : Int32} {uT5 : xF32} {uT6 : xF32} {uT7 : xF32} {uT8 : xF32} {uG0 : Int32} {uG1 : xF32} {uG2 : xF32} {uM0 : Int32} {uM1 : Int32} {uM2 : Int32} {uM3 : Int32} {uM4 : Int32} {ec : Nat} {rr : Int32} (hf : f_X7_growsTo x1 x2 uD ur ug = some (ec, rr)) : xTi l κ yX7_growsTo cX7_growsTo 5 (some .int) (xR 2 1 6) [.ref (xAd κ 234), .int x1, .int x2] (upA uA 0 (uP, uC, uD, uJ, ur, ut, ud, ug), (uT0, uT1, uT2, uT3, uT4, uT5, uT6, uT7, uT8), (uG0, uG1, uG2), (uM0, uM1, uM2, uM3, uM4), wZ) (upA uA 0 (uP, uC, uD, uJ, ur, ut, ud, ug), (uT0, uT1, uT2, uT3, uT4, uT5, uT6, uT7, uT8), (uG0, uG1, uG2), (uM0, uM1, uM2, uM3, uM4), wZ) ec rr := by
  unfold f_X7_growsTo at hf
  refine xTi_of pn_X7 (Nat.le_of_ble_eq_true rfl) ?_
  intro A p e s m args below meth c ls Q hlt hc hw hl K KX KO
  have hc : xC κ A p s m args meth c cX7_growsTo RX7 5 (some .int) := hc
  have hx := hc.1.1
  have hb := hc.1.2.1
  have hl : lv_has ls 5 [(0, .ref (xAd κ 234)), (1, .int x1), (2, .int x2)] := hl
  refine lv_aload_n hx hb dX7_growsTo_0 rfl (lv_at hl 0 rfl) ?_
  refine x_get (v := .ref (xAd κ (26 * 0))) hc hw co_234 fX7_10 rfl dX7_growsTo_1 ?_
  refine x_get (v := .ref (xAd κ (26 * 0 + 15))) hc hw (ca_0 z9) fX7_209 rfl dX7_growsTo_4 ?_
  refine lv_iload_n hx hb dX7_growsTo_7 rfl (lv_at hl 1 rfl) ?_
  obtain ⟨v1, h2, hf⟩ := xb1_of hf
  refine x_calliV (As := [.int x1]) (rest := []) (σ' := (upA uA 0 (uP, uC, uD, uJ, ur, ut, ud, ug), (uT0, uT1, uT2, uT3, uT4, uT5, uT6, uT7, uT8), (uG0, uG1, uG2), (uM0, uM1, uM2, uM3, uM4), wZ)) hc hw hl.1 (m_X2_has z9 h2) kX7_218 (ca_15 z9) rfl rfl ⟨rfl, rfl⟩ ⟨Nat.le_of_ble_eq_true rfl, Nat.le_of_ble_eq_true rfl⟩ ⟨Nat.zero_le _, Nat.zero_le _⟩ (Nat.le_of_ble_eq_true rfl) dX7_growsTo_8 (fun H locs hw => ?_)
  refine lv_if_ne (tgt := 22) hx hb dX7_growsTo_11 (by decide) (fun c3 => ?_) (fun c3 => ?_)
  · have hf := xif_f c3 hf
    refine lv_iload_n hx hb dX7_growsTo_22 rfl (lv_at hl 2 rfl) ?_
    refine lv_iconst (v := 1) hx hb dX7_growsTo_23 (by decide) ?_
    refine x_ldc hc w_constant_RX7_254_1000000000 dX7_growsTo_24 ?_
    obtain ⟨v4, h5, hf⟩ := xb1_of hf
    refine x_calliS (As := [.int x2, .int 1, .int 1000000000]) (rest := []) (σ' := (upA uA 0 (uP, uC, uD, uJ, ur, ut, ud, ug), (uT0, uT1, uT2, uT3, uT4, uT5, uT6, uT7, uT8), (uG0, uG1, uG2), (uM0, uM1, uM2, uM3, uM4), wZ)) hc hw hl.1 (m_X7_isWithin h5) kX7_70 rfl rfl ⟨rfl, rfl⟩ ⟨Nat.le_of_ble_eq_true rfl, Nat.le_of_ble_eq_true rfl⟩ ⟨Nat.zero_le _, Nat.zero_le _⟩ (Nat.le_of_ble_eq_true rfl) dX7_growsTo_26 (fun H locs hw => ?_)
    refine lv_if_ne (tgt := 40) hx hb dX7_growsTo_29 (by decide) (fun c6 => ?_) (fun c6 => ?_)
    · have hf := xif_f c6 hf
      refine lv_aload_n hx hb dX7_growsTo_40 rfl (lv_at hl 0 rfl) ?_
      refine x_get (v := .ref (xAd κ (26 * 0))) hc hw co_234 fX7_10 rfl dX7_growsTo_41 ?_
      refine x_get (v := .ref (xAd κ (26 * 0 + 15))) hc hw (ca_0 z9) fX7_209 rfl dX7_growsTo_44 ?_
      refine lv_iload_n hx hb dX7_growsTo_47 rfl (lv_at hl 1 rfl) ?_
      refine lv_iload_n hx hb dX7_growsTo_48 rfl (lv_at hl 2 rfl) ?_
      refine lv_i2l (v := x2.toInt64) hx hb dX7_growsTo_49 rfl ?_
      refine lv_aload_n hx hb dX7_growsTo_50 rfl (lv_at hl 0 rfl) ?_
      refine x_get (v := .ref (xAd κ (26 * 0))) hc hw co_234 fX7_10 rfl dX7_growsTo_51 ?_
      refine x_get (v := .ref (xAd κ (26 * 0 + 24))) hc hw (ca_0 z9) fX7_95 rfl dX7_growsTo_54 ?_
      refine lv_aload_n hx hb dX7_growsTo_57 rfl (lv_at hl 0 rfl) ?_
      refine x_get (v := .ref (xAd κ (26 * 0))) hc hw co_234 fX7_10 rfl dX7_growsTo_58 ?_
      refine x_get (v := .int ug) hc hw (ca_0 z9) fX7_199 rfl dX7_growsTo_61 ?_
      obtain ⟨k7, hf⟩ := xk_of hf
      refine x_iald (n := 4) (f := ur) hc hw (ca_24 z9) k7 dX7_growsTo_64 ?_
      obtain ⟨v8, h9, hf⟩ := xb1_of hf
      refine x_calllV (As := [.int x1, .long x2.toInt64, .int (ur ug.toNatClampNeg)]) (rest := []) (σ' := (upA uA 0 (uP, uC, uD, uJ, ur, ut, ud, ug), (uT0, uT1, uT2, uT3, uT4, uT5, uT6, uT7, uT8), (uG0, uG1, uG2), (uM0, uM1, uM2, uM3, uM4), wZ)) hc hw hl.1 (m_X2_daysUntil z9 h9) kX7_255 (ca_15 z9) rfl rfl ⟨rfl, rfl⟩ ⟨Nat.le_of_ble_eq_true rfl, Nat.le_of_ble_eq_true rfl⟩ ⟨Nat.zero_le _, Nat.zero_le _⟩ (Nat.le_of_ble_eq_true rfl) dX7_growsTo_65 (fun H locs hw => ?_)
      refine lv_lstore_n (lv' := [(3, .long v8), (0, .ref (xAd κ 234)), (1, .int x1), (2, .int x2)]) hx hb dX7_growsTo_68 rfl hl (by decide) rfl (fun ls hl => ?_)
      refine lv_lload_n hx hb dX7_growsTo_69 rfl (lv_at hl 0 rfl) ?_
      refine x_ldc2 hc w_constantLong_RX7_259_3650 dX7_growsTo_70 ?_
      refine x_lcmp_le (tgt := 85) hx hb dX7_growsTo_73 dX7_growsTo_74 (by decide) (fun c10 => ?_) (fun c10 => ?_)
      · have hf := xif_t c10 hf
        refine lv_lload_n hx hb dX7_growsTo_85 rfl (lv_at hl 0 rfl) ?_
        refine lv_l2i (v := v8.toInt32) hx hb dX7_growsTo_86 rfl ?_
        cases hf
        exact K _ _ _ _ _ _ (by decide) (by decide) dX7_growsTo_87 rfl rfl hw
      · have hf := xif_f c10 hf
        cases hf
        exact KX _ _ _ _ _ _ _ (by decide) tX7_148 dX7_growsTo_77 dX7_growsTo_80 dX7_growsTo_81 dX7_growsTo_84 hl.1 (Nat.le_of_ble_eq_true rfl) hw
    · have hf := xif_t c6 hf
      cases hf
      exact KX _ _ _ _ _ _ _ (by decide) tX7_74 dX7_growsTo_32 dX7_growsTo_35 dX7_growsTo_36 dX7_growsTo_39 hl.1 (Nat.le_of_ble_eq_true rfl) hw
  · have hf := xif_t c3 hf
    cases hf
    exact KX _ _ _ _ _ _ _ (by decide) tX7_158 dX7_growsTo_14 dX7_growsTo_17 dX7_growsTo_18 dX7_growsTo_21 hl.1 (Nat.le_of_ble_eq_true rfl) hw
def f_X7_pass (fu : Nat) (x1 : Int32) (uA : Nat → sAcc) (uP : sPar) (uC : sCla) (uD : sDeb) (uJ : sJou) (ur : xF32) (ut : xF32) (ud : Int32) (ug : Int32) (uM1 : Int32) (uM2 : Int32) (uM3 : Int32) : Option (Nat × Int64 × (Nat → sAcc) × sDeb × Int32 × Int32 × Int32 × Int32) :=
  xb1 (f_X0_faultOfDays x1 ud) fun v1 => (xb2 (f_X7_refuse v1 uM3) fun e3 uM3_4 => (if e3 = 0 then (xb3 (f_X7_remember uA uP uC uD uJ ur ut ud ug uM1 uM2) fun uA_7 uM1_8 uM2_9 => (xb3 (f_X0_letDaysPass fu x1 uD ur ud ug) fun v11 uD_12 ud_13 => (some (0, v11, uA_7, uD_12, ud_13, uM1_8, uM2_9, uM3_4)))) else (some (e3, 0, uA, uD, ud, uM1, uM2, uM3_4))))
set_option maxHeartbeats 4000000 in
set_option maxRecDepth 100000 in
theorem m_X7_pass {l : Launch} {κ : xKt} {wZ : sRef × sOut} {fu : Nat} {x1 : Int32} {uA : Nat → sAcc} {uP : sPar} {uC : sCla} {uD : sDeb} {uJ : sJou} {ur : xF32} {ut : xF32} {ud : Int32} {ug : Int32} {uT0 : Int32} {uT1 : xF32} {uT2 : Int32} {uT3 : Int32} {uT4 : Int32} {uT5 : xF32} {uT6 : xF32} {uT7 : xF32} {uT8 : xF32} {uG0 : Int32} {uG1 : xF32} {uG2 : xF32} {uM0 : Int32} {uM1 : Int32} {uM2 : Int32} {uM3 : Int32} {uM4 : Int32} {ec : Nat} {rr : Int64} {yA : Nat → sAcc} {yD : sDeb} {yd : Int32} {yM1 : Int32} {yM2 : Int32} {yM3 : Int32} (hf : f_X7_pass fu x1 uA uP uC uD uJ ur ut ud ug uM1 uM2 uM3 = some (ec, rr, yA, yD, yd, yM1, yM2, yM3)) : xTl l κ yX7_pass cX7_pass 2 (some .long) (xR 3 1 6) [.ref (xAd κ 234), .int x1] (upA uA 0 (uP, uC, uD, uJ, ur, ut, ud, ug), (uT0, uT1, uT2, uT3, uT4, uT5, uT6, uT7, uT8), (uG0, uG1, uG2), (uM0, uM1, uM2, uM3, uM4), wZ) (upA yA 0 (uP, uC, yD, uJ, ur, ut, yd, ug), (uT0, uT1, uT2, uT3, uT4, uT5, uT6, uT7, uT8), (uG0, uG1, uG2), (uM0, yM1, yM2, yM3, uM4), wZ) ec rr := by
  unfold f_X7_pass at hf
  refine xTl_of pn_X7 (Nat.le_of_ble_eq_true rfl) ?_
  intro A p e s m args below meth c ls Q hlt hc hw hl K KX KO
  have hc : xC κ A p s m args meth c cX7_pass RX7 2 (some .long) := hc
  have hx := hc.1.1
  have hb := hc.1.2.1
  have hl : lv_has ls 2 [(0, .ref (xAd κ 234)), (1, .int x1)] := hl
  refine lv_aload_n hx hb dX7_pass_0 rfl (lv_at hl 0 rfl) ?_
  refine lv_aload_n hx hb dX7_pass_1 rfl (lv_at hl 0 rfl) ?_
  refine x_get (v := .ref (xAd κ (26 * 0))) hc hw co_234 fX7_10 rfl dX7_pass_2 ?_
  refine lv_iload_n hx hb dX7_pass_5 rfl (lv_at hl 1 rfl) ?_
  obtain ⟨v1, h2, hf⟩ := xb1_of hf
  refine x_calliV (As := [.int x1]) (rest := [.ref (xAd κ 234)]) (σ' := (upA uA 0 (uP, uC, uD, uJ, ur, ut, ud, ug), (uT0, uT1, uT2, uT3, uT4, uT5, uT6, uT7, uT8), (uG0, uG1, uG2), (uM0, uM1, uM2, uM3, uM4), wZ)) hc hw hl.1 (m_X0_faultOfDays z9 h2) kX7_261 (ca_0 z9) rfl rfl ⟨rfl, rfl⟩ ⟨Nat.le_of_ble_eq_true rfl, Nat.le_of_ble_eq_true rfl⟩ ⟨Nat.zero_le _, Nat.zero_le _⟩ (Nat.le_of_ble_eq_true rfl) dX7_pass_6 (fun H locs hw => ?_)
  obtain ⟨e3, uM3_4, h5, hf⟩ := xb2_of hf
  refine x_tcallvV (As := [.int v1]) (rest := []) (σ' := (upA uA 0 (uP, uC, uD, uJ, ur, ut, ud, ug), (uT0, uT1, uT2, uT3, uT4, uT5, uT6, uT7, uT8), (uG0, uG1, uG2), (uM0, uM1, uM2, uM3_4, uM4), wZ)) hc hw hl.1 hlt (m_X7_refuse h5) kX7_91 co_234 rfl rfl ⟨rfl, rfl⟩ ⟨Nat.le_of_ble_eq_true rfl, Nat.le_of_ble_eq_true rfl⟩ ⟨Nat.le_of_ble_eq_true rfl, Nat.le_of_ble_eq_true rfl⟩ (Nat.le_of_ble_eq_true rfl) dX7_pass_9 (fun c6 H locs q ce hw q1 q2 q3 => ?_) (fun c6 H locs hw => ?_)
  · have hf := xif_f c6 hf
    cases hf
    exact KO _ _ _ _ _ _ _ _ _ (Nat.le_refl _) (Nat.le_refl _) c6 hw q1 q2 q3
  · have hf := xif_t c6 hf
    refine lv_aload_n hx hb dX7_pass_12 rfl (lv_at hl 0 rfl) ?_
    obtain ⟨uA_7, uM1_8, uM2_9, h10, hf⟩ := xb3_of hf
    refine x_callvV (As := []) (rest := []) (σ' := (upA uA_7 0 (uP, uC, uD, uJ, ur, ut, ud, ug), (uT0, uT1, uT2, uT3, uT4, uT5, uT6, uT7, uT8), (uG0, uG1, uG2), (uM0, uM1_8, uM2_9, uM3_4, uM4), wZ)) hc hw hl.1 (m_X7_remember h10) kX7_80 co_234 rfl rfl ⟨rfl, rfl⟩ ⟨Nat.le_of_ble_eq_true rfl, Nat.le_of_ble_eq_true rfl⟩ ⟨Nat.le_of_ble_eq_true rfl, Nat.le_of_ble_eq_true rfl⟩ (Nat.le_of_ble_eq_true rfl) dX7_pass_13 (fun H locs hw => ?_)
    refine lv_aload_n hx hb dX7_pass_16 rfl (lv_at hl 0 rfl) ?_
    refine x_get (v := .ref (xAd κ (26 * 0))) hc hw co_234 fX7_10 rfl dX7_pass_17 ?_
    refine lv_iload_n hx hb dX7_pass_20 rfl (lv_at hl 1 rfl) ?_
    obtain ⟨v11, uD_12, ud_13, h14, hf⟩ := xb3_of hf
    refine x_calllV (As := [.int x1]) (rest := []) (σ' := (upA uA_7 0 (uP, uC, uD_12, uJ, ur, ut, ud_13, ug), (uT0, uT1, uT2, uT3, uT4, uT5, uT6, uT7, uT8), (uG0, uG1, uG2), (uM0, uM1_8, uM2_9, uM3_4, uM4), wZ)) hc hw hl.1 (m_X0_letDaysPass z9 h14) kX7_264 (ca_0 z9) rfl rfl ⟨rfl, rfl⟩ ⟨Nat.le_of_ble_eq_true rfl, Nat.le_of_ble_eq_true rfl⟩ ⟨Nat.le_of_ble_eq_true rfl, Nat.le_of_ble_eq_true rfl⟩ (Nat.le_of_ble_eq_true rfl) dX7_pass_21 (fun H locs hw => ?_)
    cases hf
    exact K _ _ _ _ _ _ (by decide) (by decide) dX7_pass_24 rfl hw
def f_X7_goOn (uA : Nat → sAcc) (uP : sPar) (uC : sCla) (uD : sDeb) (uJ : sJou) (ur : xF32) (ut : xF32) (ud : Int32) (ug : Int32) (uM1 : Int32) (uM2 : Int32) (uM3 : Int32) : Option (Nat × Int32 × (Nat → sAcc) × Int32 × Int32 × Int32 × Int32) :=
  xb1 (f_X0_faultOfNextStage ug) fun v1 => (xb2 (f_X7_refuse v1 uM3) fun e3 uM3_4 => (if e3 = 0 then (xb3 (f_X7_remember uA uP uC uD uJ ur ut ud ug uM1 uM2) fun uA_7 uM1_8 uM2_9 => (xb1 (f_X0_enterNextStage ug) fun ug_11 => (some (0, ug_11, uA_7, ug_11, uM1_8, uM2_9, uM3_4)))) else (some (e3, 0, uA, ug, uM1, uM2, uM3_4))))
set_option maxHeartbeats 4000000 in
set_option maxRecDepth 100000 in
theorem m_X7_goOn {l : Launch} {κ : xKt} {wZ : sRef × sOut}  {uA : Nat → sAcc} {uP : sPar} {uC : sCla} {uD : sDeb} {uJ : sJou} {ur : xF32} {ut : xF32} {ud : Int32} {ug : Int32} {uT0 : Int32} {uT1 : xF32} {uT2 : Int32} {uT3 : Int32} {uT4 : Int32} {uT5 : xF32} {uT6 : xF32} {uT7 : xF32} {uT8 : xF32} {uG0 : Int32} {uG1 : xF32} {uG2 : xF32} {uM0 : Int32} {uM1 : Int32} {uM2 : Int32} {uM3 : Int32} {uM4 : Int32} {ec : Nat} {rr : Int32} {yA : Nat → sAcc} {yg : Int32} {yM1 : Int32} {yM2 : Int32} {yM3 : Int32} (hf : f_X7_goOn uA uP uC uD uJ ur ut ud ug uM1 uM2 uM3 = some (ec, rr, yA, yg, yM1, yM2, yM3)) : xTi l κ yX7_goOn cX7_goOn 1 (some .int) (xR 3 1 6) [.ref (xAd κ 234)] (upA uA 0 (uP, uC, uD, uJ, ur, ut, ud, ug), (uT0, uT1, uT2, uT3, uT4, uT5, uT6, uT7, uT8), (uG0, uG1, uG2), (uM0, uM1, uM2, uM3, uM4), wZ) (upA yA 0 (uP, uC, uD, uJ, ur, ut, ud, yg), (uT0, uT1, uT2, uT3, uT4, uT5, uT6, uT7, uT8), (uG0, uG1, uG2), (uM0, yM1, yM2, yM3, uM4), wZ) ec rr := by
  unfold f_X7_goOn at hf
  refine xTi_of pn_X7 (Nat.le_of_ble_eq_true rfl) ?_
  intro A p e s m args below meth c ls Q hlt hc hw hl K KX KO
  have hc : xC κ A p s m args meth c cX7_goOn RX7 1 (some .int) := hc
  have hx := hc.1.1
  have hb := hc.1.2.1
  have hl : lv_has ls 1 [(0, .ref (xAd κ 234))] := hl
  refine lv_aload_n hx hb dX7_goOn_0 rfl (lv_at hl 0 rfl) ?_
  refine lv_aload_n hx hb dX7_goOn_1 rfl (lv_at hl 0 rfl) ?_
  refine x_get (v := .ref (xAd κ (26 * 0))) hc hw co_234 fX7_10 rfl dX7_goOn_2 ?_
  obtain ⟨v1, h2, hf⟩ := xb1_of hf
  refine x_calliV (As := []) (rest := [.ref (xAd κ 234)]) (σ' := (upA uA 0 (uP, uC, uD, uJ, ur, ut, ud, ug), (uT0, uT1, uT2, uT3, uT4, uT5, uT6, uT7, uT8), (uG0, uG1, uG2), (uM0, uM1, uM2, uM3, uM4), wZ)) hc hw hl.1 (m_X0_faultOfNextStage z9 h2) kX7_267 (ca_0 z9) rfl rfl ⟨rfl, rfl⟩ ⟨Nat.le_of_ble_eq_true rfl, Nat.le_of_ble_eq_true rfl⟩ ⟨Nat.zero_le _, Nat.zero_le _⟩ (Nat.le_of_ble_eq_true rfl) dX7_goOn_5 (fun H locs hw => ?_)
  obtain ⟨e3, uM3_4, h5, hf⟩ := xb2_of hf
  refine x_tcallvV (As := [.int v1]) (rest := []) (σ' := (upA uA 0 (uP, uC, uD, uJ, ur, ut, ud, ug), (uT0, uT1, uT2, uT3, uT4, uT5, uT6, uT7, uT8), (uG0, uG1, uG2), (uM0, uM1, uM2, uM3_4, uM4), wZ)) hc hw hl.1 hlt (m_X7_refuse h5) kX7_91 co_234 rfl rfl ⟨rfl, rfl⟩ ⟨Nat.le_of_ble_eq_true rfl, Nat.le_of_ble_eq_true rfl⟩ ⟨Nat.le_of_ble_eq_true rfl, Nat.le_of_ble_eq_true rfl⟩ (Nat.le_of_ble_eq_true rfl) dX7_goOn_8 (fun c6 H locs q ce hw q1 q2 q3 => ?_) (fun c6 H locs hw => ?_)
  · have hf := xif_f c6 hf
    cases hf
    exact KO _ _ _ _ _ _ _ _ _ (Nat.le_refl _) (Nat.le_refl _) c6 hw q1 q2 q3
  · have hf := xif_t c6 hf
    refine lv_aload_n hx hb dX7_goOn_11 rfl (lv_at hl 0 rfl) ?_
    obtain ⟨uA_7, uM1_8, uM2_9, h10, hf⟩ := xb3_of hf
    refine x_callvV (As := []) (rest := []) (σ' := (upA uA_7 0 (uP, uC, uD, uJ, ur, ut, ud, ug), (uT0, uT1, uT2, uT3, uT4, uT5, uT6, uT7, uT8), (uG0, uG1, uG2), (uM0, uM1_8, uM2_9, uM3_4, uM4), wZ)) hc hw hl.1 (m_X7_remember h10) kX7_80 co_234 rfl rfl ⟨rfl, rfl⟩ ⟨Nat.le_of_ble_eq_true rfl, Nat.le_of_ble_eq_true rfl⟩ ⟨Nat.le_of_ble_eq_true rfl, Nat.le_of_ble_eq_true rfl⟩ (Nat.le_of_ble_eq_true rfl) dX7_goOn_12 (fun H locs hw => ?_)
    refine lv_aload_n hx hb dX7_goOn_15 rfl (lv_at hl 0 rfl) ?_
    refine x_get (v := .ref (xAd κ (26 * 0))) hc hw co_234 fX7_10 rfl dX7_goOn_16 ?_
    obtain ⟨ug_11, h12, hf⟩ := xb1_of hf
    refine x_callvV (As := []) (rest := []) (σ' := (upA uA_7 0 (uP, uC, uD, uJ, ur, ut, ud, ug_11), (uT0, uT1, uT2, uT3, uT4, uT5, uT6, uT7, uT8), (uG0, uG1, uG2), (uM0, uM1_8, uM2_9, uM3_4, uM4), wZ)) hc hw hl.1 (m_X0_enterNextStage z9 h12) kX7_271 (ca_0 z9) rfl rfl ⟨rfl, rfl⟩ ⟨Nat.le_of_ble_eq_true rfl, Nat.le_of_ble_eq_true rfl⟩ ⟨Nat.le_of_ble_eq_true rfl, Nat.le_of_ble_eq_true rfl⟩ (Nat.le_of_ble_eq_true rfl) dX7_goOn_19 (fun H locs hw => ?_)
    refine lv_aload_n hx hb dX7_goOn_22 rfl (lv_at hl 0 rfl) ?_
    refine x_get (v := .ref (xAd κ (26 * 0))) hc hw co_234 fX7_10 rfl dX7_goOn_23 ?_
    refine x_get (v := .int ug_11) hc hw (ca_0 z9) fX7_199 rfl dX7_goOn_26 ?_
    cases hf
    exact K _ _ _ _ _ _ (by decide) (by decide) dX7_goOn_29 rfl rfl hw
def f_X7_account (fu : Nat) (x1 : Int32) (uP : sPar) (uC : sCla) (uD : sDeb) (ud : Int32) (ug : Int32) : Option (Nat × Int64) :=
  xb1 (f_X7_isWithin x1 0 11) fun v1 => (if v1 = 0 then (some (2, 0)) else (xb1 (f_X0_numberOfAccount fu x1 uP uC uD ud ug) fun v4 => (some (0, v4))))
set_option maxHeartbeats 4000000 in
set_option maxRecDepth 100000 in
theorem m_X7_account {l : Launch} {κ : xKt} {wZ : sRef × sOut} {fu : Nat} {x1 : Int32} {uA : Nat → sAcc} {uP : sPar} {uC : sCla} {uD : sDeb} {uJ : sJou} {ur : xF32} {ut : xF32} {ud : Int32} {ug : Int32} {uT0 : Int32} {uT1 : xF32} {uT2 : Int32} {uT3 : Int32} {uT4 : Int32} {uT5 : xF32} {uT6 : xF32} {uT7 : xF32} {uT8 : xF32} {uG0 : Int32} {uG1 : xF32} {uG2 : xF32} {uM0 : Int32} {uM1 : Int32} {uM2 : Int32} {uM3 : Int32} {uM4 : Int32} {ec : Nat} {rr : Int64} (hf : f_X7_account fu x1 uP uC uD ud ug = some (ec, rr)) : xTl l κ yX7_account cX7_account 2 (some .long) (xR 4 1 6) [.ref (xAd κ 234), .int x1] (upA uA 0 (uP, uC, uD, uJ, ur, ut, ud, ug), (uT0, uT1, uT2, uT3, uT4, uT5, uT6, uT7, uT8), (uG0, uG1, uG2), (uM0, uM1, uM2, uM3, uM4), wZ) (upA uA 0 (uP, uC, uD, uJ, ur, ut, ud, ug), (uT0, uT1, uT2, uT3, uT4, uT5, uT6, uT7, uT8), (uG0, uG1, uG2), (uM0, uM1, uM2, uM3, uM4), wZ) ec rr := by
  unfold f_X7_account at hf
  refine xTl_of pn_X7 (Nat.le_of_ble_eq_true rfl) ?_
  intro A p e s m args below meth c ls Q hlt hc hw hl K KX KO
  have hc : xC κ A p s m args meth c cX7_account RX7 2 (some .long) := hc
  have hx := hc.1.1
  have hb := hc.1.2.1
  have hl : lv_has ls 2 [(0, .ref (xAd κ 234)), (1, .int x1)] := hl
  refine lv_iload_n hx hb dX7_account_0 rfl (lv_at hl 1 rfl) ?_
  refine lv_iconst (v := 0) hx hb dX7_account_1 (by decide) ?_
  refine lv_bipush (v := 11) hx hb dX7_account_2 (by decide) ?_
  obtain ⟨v1, h2, hf⟩ := xb1_of hf
  refine x_calliS (As := [.int x1, .int 0, .int 11]) (rest := []) (σ' := (upA uA 0 (uP, uC, uD, uJ, ur, ut, ud, ug), (uT0, uT1, uT2, uT3, uT4, uT5, uT6, uT7, uT8), (uG0, uG1, uG2), (uM0, uM1, uM2, uM3, uM4), wZ)) hc hw hl.1 (m_X7_isWithin h2) kX7_70 rfl rfl ⟨rfl, rfl⟩ ⟨Nat.le_of_ble_eq_true rfl, Nat.le_of_ble_eq_true rfl⟩ ⟨Nat.zero_le _, Nat.zero_le _⟩ (Nat.le_of_ble_eq_true rfl) dX7_account_4 (fun H locs hw => ?_)
  refine lv_if_ne (tgt := 18) hx hb dX7_account_7 (by decide) (fun c3 => ?_) (fun c3 => ?_)
  · have hf := xif_f c3 hf
    refine lv_aload_n hx hb dX7_account_18 rfl (lv_at hl 0 rfl) ?_
    refine x_get (v := .ref (xAd κ (26 * 0))) hc hw co_234 fX7_10 rfl dX7_account_19 ?_
    refine lv_iload_n hx hb dX7_account_22 rfl (lv_at hl 1 rfl) ?_
    obtain ⟨v4, h5, hf⟩ := xb1_of hf
    refine x_calllV (As := [.int x1]) (rest := []) (σ' := (upA uA 0 (uP, uC, uD, uJ, ur, ut, ud, ug), (uT0, uT1, uT2, uT3, uT4, uT5, uT6, uT7, uT8), (uG0, uG1, uG2), (uM0, uM1, uM2, uM3, uM4), wZ)) hc hw hl.1 (m_X0_numberOfAccount z9 h5) kX7_274 (ca_0 z9) rfl rfl ⟨rfl, rfl⟩ ⟨Nat.le_of_ble_eq_true rfl, Nat.le_of_ble_eq_true rfl⟩ ⟨Nat.zero_le _, Nat.zero_le _⟩ (Nat.le_of_ble_eq_true rfl) dX7_account_23 (fun H locs hw => ?_)
    cases hf
    exact K _ _ _ _ _ _ (by decide) (by decide) dX7_account_26 rfl hw
  · have hf := xif_t c3 hf
    cases hf
    exact KX _ _ _ _ _ _ _ (by decide) tX7_74 dX7_account_10 dX7_account_13 dX7_account_14 dX7_account_17 hl.1 (Nat.le_of_ble_eq_true rfl) hw
def f_X7_entry (x1 : Int32) (x2 : Int32) (uJ : sJou) : Option (Nat × Int64) :=
  xb1 (f_X3_has x1 uJ) fun v1 => (if v1 = 0 then (some (5, 0)) else (if x2 = 0 then (xk (xin x1 16) (some (0, (uJ.2.1 x1.toNatClampNeg).toInt64))) else (xk (xin x1 16) (some (0, (uJ.2.2 x1.toNatClampNeg))))))
set_option maxHeartbeats 4000000 in
set_option maxRecDepth 100000 in
theorem m_X7_entry {l : Launch} {κ : xKt} {wZ : sRef × sOut}  {x1 : Int32} {x2 : Int32} {uA : Nat → sAcc} {uP : sPar} {uC : sCla} {uD : sDeb} {uJ : sJou} {ur : xF32} {ut : xF32} {ud : Int32} {ug : Int32} {uT0 : Int32} {uT1 : xF32} {uT2 : Int32} {uT3 : Int32} {uT4 : Int32} {uT5 : xF32} {uT6 : xF32} {uT7 : xF32} {uT8 : xF32} {uG0 : Int32} {uG1 : xF32} {uG2 : xF32} {uM0 : Int32} {uM1 : Int32} {uM2 : Int32} {uM3 : Int32} {uM4 : Int32} {ec : Nat} {rr : Int64} (hf : f_X7_entry x1 x2 uJ = some (ec, rr)) : xTl l κ yX7_entry cX7_entry 3 (some .long) (xR 1 1 6) [.ref (xAd κ 234), .int x1, .int x2] (upA uA 0 (uP, uC, uD, uJ, ur, ut, ud, ug), (uT0, uT1, uT2, uT3, uT4, uT5, uT6, uT7, uT8), (uG0, uG1, uG2), (uM0, uM1, uM2, uM3, uM4), wZ) (upA uA 0 (uP, uC, uD, uJ, ur, ut, ud, ug), (uT0, uT1, uT2, uT3, uT4, uT5, uT6, uT7, uT8), (uG0, uG1, uG2), (uM0, uM1, uM2, uM3, uM4), wZ) ec rr := by
  unfold f_X7_entry at hf
  refine xTl_of pn_X7 (Nat.le_of_ble_eq_true rfl) ?_
  intro A p e s m args below meth c ls Q hlt hc hw hl K KX KO
  have hc : xC κ A p s m args meth c cX7_entry RX7 3 (some .long) := hc
  have hx := hc.1.1
  have hb := hc.1.2.1
  have hl : lv_has ls 3 [(0, .ref (xAd κ 234)), (1, .int x1), (2, .int x2)] := hl
  refine lv_aload_n hx hb dX7_entry_0 rfl (lv_at hl 0 rfl) ?_
  refine x_get (v := .ref (xAd κ (26 * 0))) hc hw co_234 fX7_10 rfl dX7_entry_1 ?_
  refine x_get (v := .ref (xAd κ (26 * 0 + 21))) hc hw (ca_0 z9) fX7_277 rfl dX7_entry_4 ?_
  refine lv_iload_n hx hb dX7_entry_7 rfl (lv_at hl 1 rfl) ?_
  obtain ⟨v1, h2, hf⟩ := xb1_of hf
  refine x_calliV (As := [.int x1]) (rest := []) (σ' := (upA uA 0 (uP, uC, uD, uJ, ur, ut, ud, ug), (uT0, uT1, uT2, uT3, uT4, uT5, uT6, uT7, uT8), (uG0, uG1, uG2), (uM0, uM1, uM2, uM3, uM4), wZ)) hc hw hl.1 (m_X3_has z9 h2) kX7_281 (ca_21 z9) rfl rfl ⟨rfl, rfl⟩ ⟨Nat.le_of_ble_eq_true rfl, Nat.le_of_ble_eq_true rfl⟩ ⟨Nat.zero_le _, Nat.zero_le _⟩ (Nat.le_of_ble_eq_true rfl) dX7_entry_8 (fun H locs hw => ?_)
  refine lv_if_ne (tgt := 22) hx hb dX7_entry_11 (by decide) (fun c3 => ?_) (fun c3 => ?_)
  · have hf := xif_f c3 hf
    refine lv_iload_n hx hb dX7_entry_22 rfl (lv_at hl 2 rfl) ?_
    refine lv_if_eq (tgt := 41) hx hb dX7_entry_23 (by decide) (fun c4 => ?_) (fun c4 => ?_)
    · have hf := xif_t c4 hf
      refine lv_aload_n hx hb dX7_entry_41 rfl (lv_at hl 0 rfl) ?_
      refine x_get (v := .ref (xAd κ (26 * 0))) hc hw co_234 fX7_10 rfl dX7_entry_42 ?_
      refine x_get (v := .ref (xAd κ (26 * 0 + 21))) hc hw (ca_0 z9) fX7_277 rfl dX7_entry_45 ?_
      refine x_get (v := .ref (xAd κ (26 * 0 + 22))) hc hw (ca_21 z9) fX7_288 rfl dX7_entry_48 ?_
      refine lv_iload_n hx hb dX7_entry_51 rfl (lv_at hl 1 rfl) ?_
      obtain ⟨k5, hf⟩ := xk_of hf
      refine x_iald (n := 16) (f := uJ.2.1) hc hw (ca_22 z9) k5 dX7_entry_52 ?_
      refine lv_i2l (v := (uJ.2.1 x1.toNatClampNeg).toInt64) hx hb dX7_entry_53 rfl ?_
      cases hf
      exact K _ _ _ _ _ _ (by decide) (by decide) dX7_entry_54 rfl hw
    · have hf := xif_f c4 hf
      refine lv_aload_n hx hb dX7_entry_26 rfl (lv_at hl 0 rfl) ?_
      refine x_get (v := .ref (xAd κ (26 * 0))) hc hw co_234 fX7_10 rfl dX7_entry_27 ?_
      refine x_get (v := .ref (xAd κ (26 * 0 + 21))) hc hw (ca_0 z9) fX7_277 rfl dX7_entry_30 ?_
      refine x_get (v := .ref (xAd κ (26 * 0 + 23))) hc hw (ca_21 z9) fX7_284 rfl dX7_entry_33 ?_
      refine lv_iload_n hx hb dX7_entry_36 rfl (lv_at hl 1 rfl) ?_
      obtain ⟨k6, hf⟩ := xk_of hf
      refine x_lald (n := 16) (f := uJ.2.2) hc hw (ca_23 z9) k6 dX7_entry_37 ?_
      refine lv_goto (tgt := 54) hx hb dX7_entry_38 (by decide) ?_
      cases hf
      exact K _ _ _ _ _ _ (by decide) (by decide) dX7_entry_54 rfl hw
  · have hf := xif_t c3 hf
    cases hf
    exact KX _ _ _ _ _ _ _ (by decide) tX7_148 dX7_entry_14 dX7_entry_17 dX7_entry_18 dX7_entry_21 hl.1 (Nat.le_of_ble_eq_true rfl) hw
def f_X7_quota (fu : Nat) (x1 : Int32) (uP : sPar) (uC : sCla) : Option (Nat × UInt64) :=
  xb1 (f_X7_isSide x1) fun v1 => (if v1 = 0 then (some (1, 0)) else (xb1 (f_X0_soughtBy fu x1 uP uC) fun v4 => (if v4 = 0 then (some (6, 0)) else (xb1 (f_X0_awardedTo fu x1 uP uC) fun v7 => (xk (xn64 (FP.ddiv (FP.l2d v7) (FP.l2d v4))) (some (0, (FP.ddiv (FP.l2d v7) (FP.l2d v4)))))))))
set_option maxHeartbeats 4000000 in
set_option maxRecDepth 100000 in
theorem m_X7_quota {l : Launch} {κ : xKt} {wZ : sRef × sOut} {fu : Nat} {x1 : Int32} {uA : Nat → sAcc} {uP : sPar} {uC : sCla} {uD : sDeb} {uJ : sJou} {ur : xF32} {ut : xF32} {ud : Int32} {ug : Int32} {uT0 : Int32} {uT1 : xF32} {uT2 : Int32} {uT3 : Int32} {uT4 : Int32} {uT5 : xF32} {uT6 : xF32} {uT7 : xF32} {uT8 : xF32} {uG0 : Int32} {uG1 : xF32} {uG2 : xF32} {uM0 : Int32} {uM1 : Int32} {uM2 : Int32} {uM3 : Int32} {uM4 : Int32} {ec : Nat} {rr : UInt64} (hf : f_X7_quota fu x1 uP uC = some (ec, rr)) : xTd l κ yX7_quota cX7_quota 4 (some .double) (xR 2 1 6) [.ref (xAd κ 234), .int x1] (upA uA 0 (uP, uC, uD, uJ, ur, ut, ud, ug), (uT0, uT1, uT2, uT3, uT4, uT5, uT6, uT7, uT8), (uG0, uG1, uG2), (uM0, uM1, uM2, uM3, uM4), wZ) (upA uA 0 (uP, uC, uD, uJ, ur, ut, ud, ug), (uT0, uT1, uT2, uT3, uT4, uT5, uT6, uT7, uT8), (uG0, uG1, uG2), (uM0, uM1, uM2, uM3, uM4), wZ) ec rr := by
  unfold f_X7_quota at hf
  refine xTd_of pn_X7 (Nat.le_of_ble_eq_true rfl) ?_
  intro A p e s m args below meth c ls Q hlt hc hw hl K KX KO
  have hc : xC κ A p s m args meth c cX7_quota RX7 4 (some .double) := hc
  have hx := hc.1.1
  have hb := hc.1.2.1
  have hl : lv_has ls 4 [(0, .ref (xAd κ 234)), (1, .int x1)] := hl
  refine lv_iload_n hx hb dX7_quota_0 rfl (lv_at hl 1 rfl) ?_
  obtain ⟨v1, h2, hf⟩ := xb1_of hf
  refine x_calliS (As := [.int x1]) (rest := []) (σ' := (upA uA 0 (uP, uC, uD, uJ, ur, ut, ud, ug), (uT0, uT1, uT2, uT3, uT4, uT5, uT6, uT7, uT8), (uG0, uG1, uG2), (uM0, uM1, uM2, uM3, uM4), wZ)) hc hw hl.1 (m_X7_isSide h2) kX7_66 rfl rfl ⟨rfl, rfl⟩ ⟨Nat.le_of_ble_eq_true rfl, Nat.le_of_ble_eq_true rfl⟩ ⟨Nat.zero_le _, Nat.zero_le _⟩ (Nat.le_of_ble_eq_true rfl) dX7_quota_1 (fun H locs hw => ?_)
  refine lv_if_ne (tgt := 15) hx hb dX7_quota_4 (by decide) (fun c3 => ?_) (fun c3 => ?_)
  · have hf := xif_f c3 hf
    refine lv_aload_n hx hb dX7_quota_15 rfl (lv_at hl 0 rfl) ?_
    refine x_get (v := .ref (xAd κ (26 * 0))) hc hw co_234 fX7_10 rfl dX7_quota_16 ?_
    refine lv_iload_n hx hb dX7_quota_19 rfl (lv_at hl 1 rfl) ?_
    obtain ⟨v4, h5, hf⟩ := xb1_of hf
    refine x_calllV (As := [.int x1]) (rest := []) (σ' := (upA uA 0 (uP, uC, uD, uJ, ur, ut, ud, ug), (uT0, uT1, uT2, uT3, uT4, uT5, uT6, uT7, uT8), (uG0, uG1, uG2), (uM0, uM1, uM2, uM3, uM4), wZ)) hc hw hl.1 (m_X0_soughtBy z9 h5) kX7_291 (ca_0 z9) rfl rfl ⟨rfl, rfl⟩ ⟨Nat.le_of_ble_eq_true rfl, Nat.le_of_ble_eq_true rfl⟩ ⟨Nat.zero_le _, Nat.zero_le _⟩ (Nat.le_of_ble_eq_true rfl) dX7_quota_20 (fun H locs hw => ?_)
    refine lv_lstore_n (lv' := [(2, .long v4), (0, .ref (xAd κ 234)), (1, .int x1)]) hx hb dX7_quota_23 rfl hl (by decide) rfl (fun ls hl => ?_)
    refine lv_lload_n hx hb dX7_quota_24 rfl (lv_at hl 0 rfl) ?_
    refine lv_lconst (v := 0) hx hb dX7_quota_25 (by decide) ?_
    refine x_lcmp_ne (tgt := 38) hx hb dX7_quota_26 dX7_quota_27 (by decide) (fun c6 => ?_) (fun c6 => ?_)
    · have hf := xif_f c6 hf
      refine lv_aload_n hx hb dX7_quota_38 rfl (lv_at hl 1 rfl) ?_
      refine x_get (v := .ref (xAd κ (26 * 0))) hc hw co_234 fX7_10 rfl dX7_quota_39 ?_
      refine lv_iload_n hx hb dX7_quota_42 rfl (lv_at hl 2 rfl) ?_
      obtain ⟨v7, h8, hf⟩ := xb1_of hf
      refine x_calllV (As := [.int x1]) (rest := []) (σ' := (upA uA 0 (uP, uC, uD, uJ, ur, ut, ud, ug), (uT0, uT1, uT2, uT3, uT4, uT5, uT6, uT7, uT8), (uG0, uG1, uG2), (uM0, uM1, uM2, uM3, uM4), wZ)) hc hw hl.1 (m_X0_awardedTo z9 h8) kX7_297 (ca_0 z9) rfl rfl ⟨rfl, rfl⟩ ⟨Nat.le_of_ble_eq_true rfl, Nat.le_of_ble_eq_true rfl⟩ ⟨Nat.zero_le _, Nat.zero_le _⟩ (Nat.le_of_ble_eq_true rfl) dX7_quota_43 (fun H locs hw => ?_)
      refine lv_l2d hx hb dX7_quota_46 ?_
      refine lv_lload_n hx hb dX7_quota_47 rfl (lv_at hl 0 rfl) ?_
      refine lv_l2d hx hb dX7_quota_48 ?_
      obtain ⟨k9, hf⟩ := xk_of hf
      refine lv_ddiv hx hb dX7_quota_49 (xn64_of k9) ?_
      cases hf
      exact K _ _ _ _ _ _ (by decide) (by decide) dX7_quota_50 rfl hw
    · have hf := xif_t c6 hf
      cases hf
      exact KX _ _ _ _ _ _ _ (by decide) tX7_294 dX7_quota_30 dX7_quota_33 dX7_quota_34 dX7_quota_37 hl.1 (Nat.le_of_ble_eq_true rfl) hw
  · have hf := xif_t c3 hf
    cases hf
    exact KX _ _ _ _ _ _ _ (by decide) tX7_158 dX7_quota_7 dX7_quota_10 dX7_quota_11 dX7_quota_14 hl.1 (Nat.le_of_ble_eq_true rfl) hw
def f_X7_append (x1 : Int32) (uT0 : Int32) (uT1 : xF32) : Option (Nat × Int32 × Int32 × xF32) :=
  xb1 (f_X7_isWithin x1 32 126) fun v1 => (if v1 = 0 then (some (2, 0, uT0, uT1)) else (if uT0 < 70 then (xb3 (f_X6_addOne x1 uT0 uT1) fun v5 uT0_6 uT1_7 => (some (0, v5, uT0_6, uT1_7))) else (some (3, 0, uT0, uT1))))
set_option maxHeartbeats 4000000 in
set_option maxRecDepth 100000 in
theorem m_X7_append {l : Launch} {κ : xKt} {wZ : sRef × sOut}  {x1 : Int32} {uA : Nat → sAcc} {uP : sPar} {uC : sCla} {uD : sDeb} {uJ : sJou} {ur : xF32} {ut : xF32} {ud : Int32} {ug : Int32} {uT0 : Int32} {uT1 : xF32} {uT2 : Int32} {uT3 : Int32} {uT4 : Int32} {uT5 : xF32} {uT6 : xF32} {uT7 : xF32} {uT8 : xF32} {uG0 : Int32} {uG1 : xF32} {uG2 : xF32} {uM0 : Int32} {uM1 : Int32} {uM2 : Int32} {uM3 : Int32} {uM4 : Int32} {ec : Nat} {rr : Int32} {yT0 : Int32} {yT1 : xF32} (hf : f_X7_append x1 uT0 uT1 = some (ec, rr, yT0, yT1)) : xTi l κ yX7_append cX7_append 2 (some .int) (xR 1 1 6) [.ref (xAd κ 234), .int x1] (upA uA 0 (uP, uC, uD, uJ, ur, ut, ud, ug), (uT0, uT1, uT2, uT3, uT4, uT5, uT6, uT7, uT8), (uG0, uG1, uG2), (uM0, uM1, uM2, uM3, uM4), wZ) (upA uA 0 (uP, uC, uD, uJ, ur, ut, ud, ug), (yT0, yT1, uT2, uT3, uT4, uT5, uT6, uT7, uT8), (uG0, uG1, uG2), (uM0, uM1, uM2, uM3, uM4), wZ) ec rr := by
  unfold f_X7_append at hf
  refine xTi_of pn_X7 (Nat.le_of_ble_eq_true rfl) ?_
  intro A p e s m args below meth c ls Q hlt hc hw hl K KX KO
  have hc : xC κ A p s m args meth c cX7_append RX7 2 (some .int) := hc
  have hx := hc.1.1
  have hb := hc.1.2.1
  have hl : lv_has ls 2 [(0, .ref (xAd κ 234)), (1, .int x1)] := hl
  refine lv_iload_n hx hb dX7_append_0 rfl (lv_at hl 1 rfl) ?_
  refine lv_bipush (v := 32) hx hb dX7_append_1 (by decide) ?_
  refine lv_bipush (v := 126) hx hb dX7_append_3 (by decide) ?_
  obtain ⟨v1, h2, hf⟩ := xb1_of hf
  refine x_calliS (As := [.int x1, .int 32, .int 126]) (rest := []) (σ' := (upA uA 0 (uP, uC, uD, uJ, ur, ut, ud, ug), (uT0, uT1, uT2, uT3, uT4, uT5, uT6, uT7, uT8), (uG0, uG1, uG2), (uM0, uM1, uM2, uM3, uM4), wZ)) hc hw hl.1 (m_X7_isWithin h2) kX7_70 rfl rfl ⟨rfl, rfl⟩ ⟨Nat.le_of_ble_eq_true rfl, Nat.le_of_ble_eq_true rfl⟩ ⟨Nat.zero_le _, Nat.zero_le _⟩ (Nat.le_of_ble_eq_true rfl) dX7_append_5 (fun H locs hw => ?_)
  refine lv_if_ne (tgt := 19) hx hb dX7_append_8 (by decide) (fun c3 => ?_) (fun c3 => ?_)
  · have hf := xif_f c3 hf
    refine lv_aload_n hx hb dX7_append_19 rfl (lv_at hl 0 rfl) ?_
    refine x_get (v := .ref (xAd κ 236)) hc hw co_234 fX7_26 rfl dX7_append_20 ?_
    refine x_get (v := .int uT0) hc hw co_236 fX7_300 rfl dX7_append_23 ?_
    refine lv_bipush (v := 70) hx hb dX7_append_26 (by decide) ?_
    refine lv_icmp_lt (tgt := 39) hx hb dX7_append_28 (by decide) (fun c4 => ?_) (fun c4 => ?_)
    · have hf := xif_t c4 hf
      refine lv_aload_n hx hb dX7_append_39 rfl (lv_at hl 0 rfl) ?_
      refine x_get (v := .ref (xAd κ 236)) hc hw co_234 fX7_26 rfl dX7_append_40 ?_
      refine lv_iload_n hx hb dX7_append_43 rfl (lv_at hl 1 rfl) ?_
      obtain ⟨v5, uT0_6, uT1_7, h8, hf⟩ := xb3_of hf
      refine x_calliV (As := [.int x1]) (rest := []) (σ' := (upA uA 0 (uP, uC, uD, uJ, ur, ut, ud, ug), (uT0_6, uT1_7, uT2, uT3, uT4, uT5, uT6, uT7, uT8), (uG0, uG1, uG2), (uM0, uM1, uM2, uM3, uM4), wZ)) hc hw hl.1 (m_X6_addOne h8) kX7_301 co_236 rfl rfl ⟨rfl, rfl⟩ ⟨Nat.le_of_ble_eq_true rfl, Nat.le_of_ble_eq_true rfl⟩ ⟨Nat.zero_le _, Nat.zero_le _⟩ (Nat.le_of_ble_eq_true rfl) dX7_append_44 (fun H locs hw => ?_)
      cases hf
      exact K _ _ _ _ _ _ (by decide) (by decide) dX7_append_47 rfl rfl hw
    · have hf := xif_f c4 hf
      cases hf
      exact KX _ _ _ _ _ _ _ (by decide) tX7_77 dX7_append_31 dX7_append_34 dX7_append_35 dX7_append_38 hl.1 (Nat.le_of_ble_eq_true rfl) hw
  · have hf := xif_t c3 hf
    cases hf
    exact KX _ _ _ _ _ _ _ (by decide) tX7_74 dX7_append_11 dX7_append_14 dX7_append_15 dX7_append_18 hl.1 (Nat.le_of_ble_eq_true rfl) hw
def f_X7_faultOfCommand (fu : Nat) (x2 : Int32) (uP : sPar) (uC : sCla) (uD : sDeb) (ud : Int32) (ug : Int32) (uT5 : xF32) (uT6 : xF32) (uT7 : xF32) (uT8 : xF32) : Option Int32 :=
  xk (xin x2 35) (xk (xin x2 35) (xk (xin x2 35) (xk (xin x2 35) (if (uT5 x2.toNatClampNeg) = 97 then (xb1 (f_X0_faultOfRuling (uT6 x2.toNatClampNeg) (uT8 x2.toNatClampNeg) uC ug) fun v6 => (some v6)) else (if (uT5 x2.toNatClampNeg) = 99 then (xb1 (f_X0_faultOfClaim (uT6 x2.toNatClampNeg) (uT7 x2.toNatClampNeg) (uT8 x2.toNatClampNeg) uP uC ug) fun v9 => (some v9)) else (if (uT5 x2.toNatClampNeg) = 100 then (xb1 (f_X0_faultOfRuling (uT6 x2.toNatClampNeg) (uT8 x2.toNatClampNeg) uC ug) fun v12 => (some v12)) else (if (uT5 x2.toNatClampNeg) = 110 then (xb1 (f_X0_faultOfDays (uT6 x2.toNatClampNeg) ud) fun v15 => (some v15)) else (if (uT5 x2.toNatClampNeg) = 112 then (xb1 (f_X0_faultOfPayment (uT6 x2.toNatClampNeg) (uT8 x2.toNatClampNeg) uP) fun v18 => (some v18)) else (if (uT5 x2.toNatClampNeg) = 115 then (xb1 (f_X0_faultOfSettlement fu (uT6 x2.toNatClampNeg) (uT7 x2.toNatClampNeg) (uT8 x2.toNatClampNeg) uP uD) fun v21 => (some v21)) else (if (uT5 x2.toNatClampNeg) = 119 then (xb1 (f_X0_faultOfWithdrawal (uT6 x2.toNatClampNeg) (uT8 x2.toNatClampNeg) uC ug) fun v24 => (some v24)) else (xb1 (f_X0_faultOfNextStage ug) fun v26 => (some v26))))))))))))
set_option maxHeartbeats 4000000 in
set_option maxRecDepth 100000 in
theorem m_X7_faultOfCommand {l : Launch} {κ : xKt} {wA : Nat → sAcc} {wa : Nat} {wZ : sRng × sMai × sRef × sOut} (ha : wa < 9) {fu : Nat} {x2 : Int32} {uP : sPar} {uC : sCla} {uD : sDeb} {uJ : sJou} {ur : xF32} {ut : xF32} {ud : Int32} {ug : Int32} {uT0 : Int32} {uT1 : xF32} {uT2 : Int32} {uT3 : Int32} {uT4 : Int32} {uT5 : xF32} {uT6 : xF32} {uT7 : xF32} {uT8 : xF32} {rr : Int32} (hf : f_X7_faultOfCommand fu x2 uP uC uD ud ug uT5 uT6 uT7 uT8 = some rr) : xMi l κ yX7_faultOfCommand cX7_faultOfCommand 6 (some .int) (xR 3 0 0) [.ref (xAd κ (26 * wa)), .ref (xAd κ 236), .int x2] (upA wA wa (uP, uC, uD, uJ, ur, ut, ud, ug), (uT0, uT1, uT2, uT3, uT4, uT5, uT6, uT7, uT8), wZ) (upA wA wa (uP, uC, uD, uJ, ur, ut, ud, ug), (uT0, uT1, uT2, uT3, uT4, uT5, uT6, uT7, uT8), wZ) rr := by
  unfold f_X7_faultOfCommand at hf
  refine xMi_of pn_X7 (Nat.le_of_ble_eq_true rfl) ⟨rfl, rfl⟩ ?_
  intro A p e s m args below meth c ls Q hc hw hl K
  have hc : xC κ A p s m args meth c cX7_faultOfCommand RX7 6 (some .int) := hc
  have hx := hc.1.1
  have hb := hc.1.2.1
  have hl : lv_has ls 6 [(0, .ref (xAd κ (26 * wa))), (1, .ref (xAd κ 236)), (2, .int x2)] := hl
  refine lv_aload_n hx hb dX7_faultOfCommand_0 rfl (lv_at hl 1 rfl) ?_
  refine x_get (v := .ref (xAd κ 239)) hc hw co_236 fX7_347 rfl dX7_faultOfCommand_1 ?_
  refine lv_iload_n hx hb dX7_faultOfCommand_4 rfl (lv_at hl 2 rfl) ?_
  obtain ⟨k1, hf⟩ := xk_of hf
  refine x_iald (n := 35) (f := uT6) hc hw co_239 k1 dX7_faultOfCommand_5 ?_
  refine lv_istore_n (lv' := [(3, .int (uT6 x2.toNatClampNeg)), (0, .ref (xAd κ (26 * wa))), (1, .ref (xAd κ 236)), (2, .int x2)]) hx hb dX7_faultOfCommand_6 rfl hl (by decide) rfl (fun ls hl => ?_)
  refine lv_aload_n hx hb dX7_faultOfCommand_7 rfl (lv_at hl 2 rfl) ?_
  refine x_get (v := .ref (xAd κ 240)) hc hw co_236 fX7_350 rfl dX7_faultOfCommand_8 ?_
  refine lv_iload_n hx hb dX7_faultOfCommand_11 rfl (lv_at hl 3 rfl) ?_
  obtain ⟨k2, hf⟩ := xk_of hf
  refine x_iald (n := 35) (f := uT7) hc hw co_240 k2 dX7_faultOfCommand_12 ?_
  refine lv_istore (lv' := [(4, .int (uT7 x2.toNatClampNeg)), (3, .int (uT6 x2.toNatClampNeg)), (0, .ref (xAd κ (26 * wa))), (1, .ref (xAd κ 236)), (2, .int x2)]) hx hb dX7_faultOfCommand_13 hl (by decide) rfl (fun ls hl => ?_)
  refine lv_aload_n hx hb dX7_faultOfCommand_15 rfl (lv_at hl 3 rfl) ?_
  refine x_get (v := .ref (xAd κ 241)) hc hw co_236 fX7_353 rfl dX7_faultOfCommand_16 ?_
  refine lv_iload_n hx hb dX7_faultOfCommand_19 rfl (lv_at hl 4 rfl) ?_
  obtain ⟨k3, hf⟩ := xk_of hf
  refine x_iald (n := 35) (f := uT8) hc hw co_241 k3 dX7_faultOfCommand_20 ?_
  refine lv_istore (lv' := [(5, .int (uT8 x2.toNatClampNeg)), (4, .int (uT7 x2.toNatClampNeg)), (3, .int (uT6 x2.toNatClampNeg)), (0, .ref (xAd κ (26 * wa))), (1, .ref (xAd κ 236)), (2, .int x2)]) hx hb dX7_faultOfCommand_21 hl (by decide) rfl (fun ls hl => ?_)
  refine lv_aload_n hx hb dX7_faultOfCommand_23 rfl (lv_at hl 4 rfl) ?_
  refine x_get (v := .ref (xAd κ 238)) hc hw co_236 fX7_355 rfl dX7_faultOfCommand_24 ?_
  refine lv_iload_n hx hb dX7_faultOfCommand_27 rfl (lv_at hl 5 rfl) ?_
  obtain ⟨k4, hf⟩ := xk_of hf
  refine x_iald (n := 35) (f := uT5) hc hw co_238 k4 dX7_faultOfCommand_28 ?_
  by_cases c5 : (uT5 x2.toNatClampNeg) = 97
  · have hf := xif_t c5 hf
    refine x_tabI (k := 97) (off := 117) (tgt := 146) hx hb dX7_faultOfCommand_29 c5 (by decide) (by decide) (by decide) ?_
    refine lv_aload_n hx hb dX7_faultOfCommand_146 rfl (lv_at hl 3 rfl) ?_
    refine lv_iload_n hx hb dX7_faultOfCommand_147 rfl (lv_at hl 2 rfl) ?_
    refine lv_iload hx hb dX7_faultOfCommand_148 (lv_at hl 0 rfl) ?_
    obtain ⟨v6, h7, hf⟩ := xb1_of hf
    refine x_calliV (As := [.int (uT6 x2.toNatClampNeg), .int (uT8 x2.toNatClampNeg)]) (rest := []) (σ' := (upA wA wa (uP, uC, uD, uJ, ur, ut, ud, ug), (uT0, uT1, uT2, uT3, uT4, uT5, uT6, uT7, uT8), wZ)) hc hw hl.1 (m_X0_faultOfRuling ha h7) kX7_124 (ca_0 ha) rfl rfl ⟨rfl, rfl⟩ ⟨Nat.le_of_ble_eq_true rfl, Nat.le_of_ble_eq_true rfl⟩ ⟨Nat.zero_le _, Nat.zero_le _⟩ (Nat.le_of_ble_eq_true rfl) dX7_faultOfCommand_150 (fun H locs hw => ?_)
    cases hf
    exact K _ _ _ _ dX7_faultOfCommand_153 rfl hw
  have hf := xif_f c5 hf
  by_cases c8 : (uT5 x2.toNatClampNeg) = 99
  · have hf := xif_t c8 hf
    refine x_tabI (k := 99) (off := 107) (tgt := 136) hx hb dX7_faultOfCommand_29 c8 (by decide) (by decide) (by decide) ?_
    refine lv_aload_n hx hb dX7_faultOfCommand_136 rfl (lv_at hl 3 rfl) ?_
    refine lv_iload_n hx hb dX7_faultOfCommand_137 rfl (lv_at hl 2 rfl) ?_
    refine lv_iload hx hb dX7_faultOfCommand_138 (lv_at hl 1 rfl) ?_
    refine lv_iload hx hb dX7_faultOfCommand_140 (lv_at hl 0 rfl) ?_
    obtain ⟨v9, h10, hf⟩ := xb1_of hf
    refine x_calliV (As := [.int (uT6 x2.toNatClampNeg), .int (uT7 x2.toNatClampNeg), .int (uT8 x2.toNatClampNeg)]) (rest := []) (σ' := (upA wA wa (uP, uC, uD, uJ, ur, ut, ud, ug), (uT0, uT1, uT2, uT3, uT4, uT5, uT6, uT7, uT8), wZ)) hc hw hl.1 (m_X0_faultOfClaim ha h10) kX7_113 (ca_0 ha) rfl rfl ⟨rfl, rfl⟩ ⟨Nat.le_of_ble_eq_true rfl, Nat.le_of_ble_eq_true rfl⟩ ⟨Nat.zero_le _, Nat.zero_le _⟩ (Nat.le_of_ble_eq_true rfl) dX7_faultOfCommand_142 (fun H locs hw => ?_)
    cases hf
    exact K _ _ _ _ dX7_faultOfCommand_145 rfl hw
  have hf := xif_f c8 hf
  by_cases c11 : (uT5 x2.toNatClampNeg) = 100
  · have hf := xif_t c11 hf
    refine x_tabI (k := 100) (off := 117) (tgt := 146) hx hb dX7_faultOfCommand_29 c11 (by decide) (by decide) (by decide) ?_
    refine lv_aload_n hx hb dX7_faultOfCommand_146 rfl (lv_at hl 3 rfl) ?_
    refine lv_iload_n hx hb dX7_faultOfCommand_147 rfl (lv_at hl 2 rfl) ?_
    refine lv_iload hx hb dX7_faultOfCommand_148 (lv_at hl 0 rfl) ?_
    obtain ⟨v12, h13, hf⟩ := xb1_of hf
    refine x_calliV (As := [.int (uT6 x2.toNatClampNeg), .int (uT8 x2.toNatClampNeg)]) (rest := []) (σ' := (upA wA wa (uP, uC, uD, uJ, ur, ut, ud, ug), (uT0, uT1, uT2, uT3, uT4, uT5, uT6, uT7, uT8), wZ)) hc hw hl.1 (m_X0_faultOfRuling ha h13) kX7_124 (ca_0 ha) rfl rfl ⟨rfl, rfl⟩ ⟨Nat.le_of_ble_eq_true rfl, Nat.le_of_ble_eq_true rfl⟩ ⟨Nat.zero_le _, Nat.zero_le _⟩ (Nat.le_of_ble_eq_true rfl) dX7_faultOfCommand_150 (fun H locs hw => ?_)
    cases hf
    exact K _ _ _ _ dX7_faultOfCommand_153 rfl hw
  have hf := xif_f c11 hf
  by_cases c14 : (uT5 x2.toNatClampNeg) = 110
  · have hf := xif_t c14 hf
    refine x_tabI (k := 110) (off := 151) (tgt := 180) hx hb dX7_faultOfCommand_29 c14 (by decide) (by decide) (by decide) ?_
    refine lv_aload_n hx hb dX7_faultOfCommand_180 rfl (lv_at hl 3 rfl) ?_
    refine lv_iload_n hx hb dX7_faultOfCommand_181 rfl (lv_at hl 2 rfl) ?_
    obtain ⟨v15, h16, hf⟩ := xb1_of hf
    refine x_calliV (As := [.int (uT6 x2.toNatClampNeg)]) (rest := []) (σ' := (upA wA wa (uP, uC, uD, uJ, ur, ut, ud, ug), (uT0, uT1, uT2, uT3, uT4, uT5, uT6, uT7, uT8), wZ)) hc hw hl.1 (m_X0_faultOfDays ha h16) kX7_261 (ca_0 ha) rfl rfl ⟨rfl, rfl⟩ ⟨Nat.le_of_ble_eq_true rfl, Nat.le_of_ble_eq_true rfl⟩ ⟨Nat.zero_le _, Nat.zero_le _⟩ (Nat.le_of_ble_eq_true rfl) dX7_faultOfCommand_182 (fun H locs hw => ?_)
    cases hf
    exact K _ _ _ _ dX7_faultOfCommand_185 rfl hw
  have hf := xif_f c14 hf
  by_cases c17 : (uT5 x2.toNatClampNeg) = 112
  · have hf := xif_t c17 hf
    refine x_tabI (k := 112) (off := 133) (tgt := 162) hx hb dX7_faultOfCommand_29 c17 (by decide) (by decide) (by decide) ?_
    refine lv_aload_n hx hb dX7_faultOfCommand_162 rfl (lv_at hl 3 rfl) ?_
    refine lv_iload_n hx hb dX7_faultOfCommand_163 rfl (lv_at hl 2 rfl) ?_
    refine lv_iload hx hb dX7_faultOfCommand_164 (lv_at hl 0 rfl) ?_
    obtain ⟨v18, h19, hf⟩ := xb1_of hf
    refine x_calliV (As := [.int (uT6 x2.toNatClampNeg), .int (uT8 x2.toNatClampNeg)]) (rest := []) (σ' := (upA wA wa (uP, uC, uD, uJ, ur, ut, ud, ug), (uT0, uT1, uT2, uT3, uT4, uT5, uT6, uT7, uT8), wZ)) hc hw hl.1 (m_X0_faultOfPayment ha h19) kX7_180 (ca_0 ha) rfl rfl ⟨rfl, rfl⟩ ⟨Nat.le_of_ble_eq_true rfl, Nat.le_of_ble_eq_true rfl⟩ ⟨Nat.zero_le _, Nat.zero_le _⟩ (Nat.le_of_ble_eq_true rfl) dX7_faultOfCommand_166 (fun H locs hw => ?_)
    cases hf
    exact K _ _ _ _ dX7_faultOfCommand_169 rfl hw
  have hf := xif_f c17 hf
  by_cases c20 : (uT5 x2.toNatClampNeg) = 115
  · have hf := xif_t c20 hf
    refine x_tabI (k := 115) (off := 141) (tgt := 170) hx hb dX7_faultOfCommand_29 c20 (by decide) (by decide) (by decide) ?_
    refine lv_aload_n hx hb dX7_faultOfCommand_170 rfl (lv_at hl 3 rfl) ?_
    refine lv_iload_n hx hb dX7_faultOfCommand_171 rfl (lv_at hl 2 rfl) ?_
    refine lv_iload hx hb dX7_faultOfCommand_172 (lv_at hl 1 rfl) ?_
    refine lv_iload hx hb dX7_faultOfCommand_174 (lv_at hl 0 rfl) ?_
    obtain ⟨v21, h22, hf⟩ := xb1_of hf
    refine x_calliV (As := [.int (uT6 x2.toNatClampNeg), .int (uT7 x2.toNatClampNeg), .int (uT8 x2.toNatClampNeg)]) (rest := []) (σ' := (upA wA wa (uP, uC, uD, uJ, ur, ut, ud, ug), (uT0, uT1, uT2, uT3, uT4, uT5, uT6, uT7, uT8), wZ)) hc hw hl.1 (m_X0_faultOfSettlement ha h22) kX7_221 (ca_0 ha) rfl rfl ⟨rfl, rfl⟩ ⟨Nat.le_of_ble_eq_true rfl, Nat.le_of_ble_eq_true rfl⟩ ⟨Nat.zero_le _, Nat.zero_le _⟩ (Nat.le_of_ble_eq_true rfl) dX7_faultOfCommand_176 (fun H locs hw => ?_)
    cases hf
    exact K _ _ _ _ dX7_faultOfCommand_179 rfl hw
  have hf := xif_f c20 hf
  by_cases c23 : (uT5 x2.toNatClampNeg) = 119
  · have hf := xif_t c23 hf
    refine x_tabI (k := 119) (off := 125) (tgt := 154) hx hb dX7_faultOfCommand_29 c23 (by decide) (by decide) (by decide) ?_
    refine lv_aload_n hx hb dX7_faultOfCommand_154 rfl (lv_at hl 3 rfl) ?_
    refine lv_iload_n hx hb dX7_faultOfCommand_155 rfl (lv_at hl 2 rfl) ?_
    refine lv_iload hx hb dX7_faultOfCommand_156 (lv_at hl 0 rfl) ?_
    obtain ⟨v24, h25, hf⟩ := xb1_of hf
    refine x_calliV (As := [.int (uT6 x2.toNatClampNeg), .int (uT8 x2.toNatClampNeg)]) (rest := []) (σ' := (upA wA wa (uP, uC, uD, uJ, ur, ut, ud, ug), (uT0, uT1, uT2, uT3, uT4, uT5, uT6, uT7, uT8), wZ)) hc hw hl.1 (m_X0_faultOfWithdrawal ha h25) kX7_138 (ca_0 ha) rfl rfl ⟨rfl, rfl⟩ ⟨Nat.le_of_ble_eq_true rfl, Nat.le_of_ble_eq_true rfl⟩ ⟨Nat.zero_le _, Nat.zero_le _⟩ (Nat.le_of_ble_eq_true rfl) dX7_faultOfCommand_158 (fun H locs hw => ?_)
    cases hf
    exact K _ _ _ _ dX7_faultOfCommand_161 rfl hw
  have hf := xif_f c23 hf
  have c5 := x_neT (z := 97) c5 (by decide)
  have c8 := x_neT (z := 99) c8 (by decide)
  have c11 := x_neT (z := 100) c11 (by decide)
  have c14 := x_neT (z := 110) c14 (by decide)
  have c17 := x_neT (z := 112) c17 (by decide)
  have c20 := x_neT (z := 115) c20 (by decide)
  have c23 := x_neT (z := 119) c23 (by decide)
  refine x_tabD (tgt := 186) hx hb dX7_faultOfCommand_29 ?_ (by decide) ?_
  · by_cases q1 : (uT5 x2.toNatClampNeg).toInt < 97
    · exact Or.inl q1
    by_cases q2 : 119 < (uT5 x2.toNatClampNeg).toInt
    · exact Or.inr (Or.inl q2)
    have q3 : (uT5 x2.toNatClampNeg).toInt = 98 ∨ (uT5 x2.toNatClampNeg).toInt = 101 ∨ (uT5 x2.toNatClampNeg).toInt = 102 ∨ (uT5 x2.toNatClampNeg).toInt = 103 ∨ (uT5 x2.toNatClampNeg).toInt = 104 ∨ (uT5 x2.toNatClampNeg).toInt = 105 ∨ (uT5 x2.toNatClampNeg).toInt = 106 ∨ (uT5 x2.toNatClampNeg).toInt = 107 ∨ (uT5 x2.toNatClampNeg).toInt = 108 ∨ (uT5 x2.toNatClampNeg).toInt = 109 ∨ (uT5 x2.toNatClampNeg).toInt = 111 ∨ (uT5 x2.toNatClampNeg).toInt = 113 ∨ (uT5 x2.toNatClampNeg).toInt = 114 ∨ (uT5 x2.toNatClampNeg).toInt = 116 ∨ (uT5 x2.toNatClampNeg).toInt = 117 ∨ (uT5 x2.toNatClampNeg).toInt = 118 := by omega
    refine Or.inr (Or.inr ?_)
    rcases q3 with q3 | q3 | q3 | q3 | q3 | q3 | q3 | q3 | q3 | q3 | q3 | q3 | q3 | q3 | q3 | q3 <;> (rw [q3]; decide)
  refine lv_aload_n hx hb dX7_faultOfCommand_186 rfl (lv_at hl 3 rfl) ?_
  obtain ⟨v26, h27, hf⟩ := xb1_of hf
  refine x_calliV (As := []) (rest := []) (σ' := (upA wA wa (uP, uC, uD, uJ, ur, ut, ud, ug), (uT0, uT1, uT2, uT3, uT4, uT5, uT6, uT7, uT8), wZ)) hc hw hl.1 (m_X0_faultOfNextStage ha h27) kX7_267 (ca_0 ha) rfl rfl ⟨rfl, rfl⟩ ⟨Nat.le_of_ble_eq_true rfl, Nat.le_of_ble_eq_true rfl⟩ ⟨Nat.zero_le _, Nat.zero_le _⟩ (Nat.le_of_ble_eq_true rfl) dX7_faultOfCommand_187 (fun H locs hw => ?_)
  cases hf
  exact K _ _ _ _ dX7_faultOfCommand_190 rfl hw
def f_X7_perform (fu : Nat) (x2 : Int32) (uP : sPar) (uC : sCla) (uD : sDeb) (uJ : sJou) (ur : xF32) (ud : Int32) (ug : Int32) (uT5 : xF32) (uT6 : xF32) (uT7 : xF32) (uT8 : xF32) : Option (sPar × sCla × sDeb × sJou × Int32 × Int32) :=
  xk (xin x2 35) (xk (xin x2 35) (xk (xin x2 35) (xk (xin x2 35) (if (uT5 x2.toNatClampNeg) = 97 then (xb3 (f_X0_makeAward fu (uT6 x2.toNatClampNeg) (uT8 x2.toNatClampNeg) uC uD uJ) fun uC_6 uD_7 uJ_8 => (some (uP, uC_6, uD_7, uJ_8, ud, ug))) else (if (uT5 x2.toNatClampNeg) = 99 then (xb2 (f_X1_addOne (uT6 x2.toNatClampNeg) (uT7 x2.toNatClampNeg) (uT8 x2.toNatClampNeg) uC) fun v11 uC_12 => (some (uP, uC_12, uD, uJ, ud, ug))) else (if (uT5 x2.toNatClampNeg) = 100 then (xb2 (f_X0_makeDismissal fu (uT6 x2.toNatClampNeg) (uT8 x2.toNatClampNeg) uC uJ) fun uC_15 uJ_16 => (some (uP, uC_15, uD, uJ_16, ud, ug))) else (if (uT5 x2.toNatClampNeg) = 110 then (xb3 (f_X0_letDaysPass fu (uT6 x2.toNatClampNeg) uD ur ud ug) fun v19 uD_20 ud_21 => (some (uP, uC, uD_20, uJ, ud_21, ug))) else (if (uT5 x2.toNatClampNeg) = 112 then (xb2 (f_X0_makePayment fu (uT6 x2.toNatClampNeg) (uT8 x2.toNatClampNeg).toInt64 uP uJ) fun uP_24 uJ_25 => (some (uP_24, uC, uD, uJ_25, ud, ug))) else (if (uT5 x2.toNatClampNeg) = 115 then (xb2 (f_X0_makeSettlement fu (uT6 x2.toNatClampNeg) (uT7 x2.toNatClampNeg) (uT8 x2.toNatClampNeg) uD uJ) fun uD_28 uJ_29 => (some (uP, uC, uD_28, uJ_29, ud, ug))) else (if (uT5 x2.toNatClampNeg) = 119 then (xb2 (f_X0_makeWithdrawal fu (uT6 x2.toNatClampNeg) (uT8 x2.toNatClampNeg) uC uJ) fun uC_32 uJ_33 => (some (uP, uC_32, uD, uJ_33, ud, ug))) else (xb1 (f_X0_enterNextStage ug) fun ug_35 => (some (uP, uC, uD, uJ, ud, ug_35)))))))))))))
set_option maxHeartbeats 4000000 in
set_option maxRecDepth 100000 in
theorem m_X7_perform {l : Launch} {κ : xKt} {wA : Nat → sAcc} {wa : Nat} {wZ : sRng × sMai × sRef × sOut} (ha : wa < 9) {fu : Nat} {x2 : Int32} {uP : sPar} {uC : sCla} {uD : sDeb} {uJ : sJou} {ur : xF32} {ut : xF32} {ud : Int32} {ug : Int32} {uT0 : Int32} {uT1 : xF32} {uT2 : Int32} {uT3 : Int32} {uT4 : Int32} {uT5 : xF32} {uT6 : xF32} {uT7 : xF32} {uT8 : xF32} {yP : sPar} {yC : sCla} {yD : sDeb} {yJ : sJou} {yd : Int32} {yg : Int32} (hf : f_X7_perform fu x2 uP uC uD uJ ur ud ug uT5 uT6 uT7 uT8 = some (yP, yC, yD, yJ, yd, yg)) : xMv l κ yX7_perform cX7_perform 6 none (xR 3 0 0) [.ref (xAd κ (26 * wa)), .ref (xAd κ 236), .int x2] (upA wA wa (uP, uC, uD, uJ, ur, ut, ud, ug), (uT0, uT1, uT2, uT3, uT4, uT5, uT6, uT7, uT8), wZ) (upA wA wa (yP, yC, yD, yJ, ur, ut, yd, yg), (uT0, uT1, uT2, uT3, uT4, uT5, uT6, uT7, uT8), wZ) := by
  unfold f_X7_perform at hf
  refine xMv_of pn_X7 (Nat.le_of_ble_eq_true rfl) ⟨rfl, rfl⟩ ?_
  intro A p e s m args below meth c ls Q hc hw hl K
  have hc : xC κ A p s m args meth c cX7_perform RX7 6 none := hc
  have hx := hc.1.1
  have hb := hc.1.2.1
  have hl : lv_has ls 6 [(0, .ref (xAd κ (26 * wa))), (1, .ref (xAd κ 236)), (2, .int x2)] := hl
  refine lv_aload_n hx hb dX7_perform_0 rfl (lv_at hl 1 rfl) ?_
  refine x_get (v := .ref (xAd κ 239)) hc hw co_236 fX7_347 rfl dX7_perform_1 ?_
  refine lv_iload_n hx hb dX7_perform_4 rfl (lv_at hl 2 rfl) ?_
  obtain ⟨k1, hf⟩ := xk_of hf
  refine x_iald (n := 35) (f := uT6) hc hw co_239 k1 dX7_perform_5 ?_
  refine lv_istore_n (lv' := [(3, .int (uT6 x2.toNatClampNeg)), (0, .ref (xAd κ (26 * wa))), (1, .ref (xAd κ 236)), (2, .int x2)]) hx hb dX7_perform_6 rfl hl (by decide) rfl (fun ls hl => ?_)
  refine lv_aload_n hx hb dX7_perform_7 rfl (lv_at hl 2 rfl) ?_
  refine x_get (v := .ref (xAd κ 240)) hc hw co_236 fX7_350 rfl dX7_perform_8 ?_
  refine lv_iload_n hx hb dX7_perform_11 rfl (lv_at hl 3 rfl) ?_
  obtain ⟨k2, hf⟩ := xk_of hf
  refine x_iald (n := 35) (f := uT7) hc hw co_240 k2 dX7_perform_12 ?_
  refine lv_istore (lv' := [(4, .int (uT7 x2.toNatClampNeg)), (3, .int (uT6 x2.toNatClampNeg)), (0, .ref (xAd κ (26 * wa))), (1, .ref (xAd κ 236)), (2, .int x2)]) hx hb dX7_perform_13 hl (by decide) rfl (fun ls hl => ?_)
  refine lv_aload_n hx hb dX7_perform_15 rfl (lv_at hl 3 rfl) ?_
  refine x_get (v := .ref (xAd κ 241)) hc hw co_236 fX7_353 rfl dX7_perform_16 ?_
  refine lv_iload_n hx hb dX7_perform_19 rfl (lv_at hl 4 rfl) ?_
  obtain ⟨k3, hf⟩ := xk_of hf
  refine x_iald (n := 35) (f := uT8) hc hw co_241 k3 dX7_perform_20 ?_
  refine lv_istore (lv' := [(5, .int (uT8 x2.toNatClampNeg)), (4, .int (uT7 x2.toNatClampNeg)), (3, .int (uT6 x2.toNatClampNeg)), (0, .ref (xAd κ (26 * wa))), (1, .ref (xAd κ 236)), (2, .int x2)]) hx hb dX7_perform_21 hl (by decide) rfl (fun ls hl => ?_)
  refine lv_aload_n hx hb dX7_perform_23 rfl (lv_at hl 4 rfl) ?_
  refine x_get (v := .ref (xAd κ 238)) hc hw co_236 fX7_355 rfl dX7_perform_24 ?_
  refine lv_iload_n hx hb dX7_perform_27 rfl (lv_at hl 5 rfl) ?_
  obtain ⟨k4, hf⟩ := xk_of hf
  refine x_iald (n := 35) (f := uT5) hc hw co_238 k4 dX7_perform_28 ?_
  by_cases c5 : (uT5 x2.toNatClampNeg) = 97
  · have hf := xif_t c5 hf
    refine x_tabI (k := 97) (off := 123) (tgt := 152) hx hb dX7_perform_29 c5 (by decide) (by decide) (by decide) ?_
    refine lv_aload_n hx hb dX7_perform_152 rfl (lv_at hl 3 rfl) ?_
    refine lv_iload_n hx hb dX7_perform_153 rfl (lv_at hl 2 rfl) ?_
    refine lv_iload hx hb dX7_perform_154 (lv_at hl 0 rfl) ?_
    obtain ⟨uC_6, uD_7, uJ_8, h9, hf⟩ := xb3_of hf
    refine x_callvV (As := [.int (uT6 x2.toNatClampNeg), .int (uT8 x2.toNatClampNeg)]) (rest := []) (σ' := (upA wA wa (uP, uC_6, uD_7, uJ_8, ur, ut, ud, ug), (uT0, uT1, uT2, uT3, uT4, uT5, uT6, uT7, uT8), wZ)) hc hw hl.1 (m_X0_makeAward ha h9) kX7_127 (ca_0 ha) rfl rfl ⟨rfl, rfl⟩ ⟨Nat.le_of_ble_eq_true rfl, Nat.le_of_ble_eq_true rfl⟩ ⟨Nat.zero_le _, Nat.zero_le _⟩ (Nat.le_of_ble_eq_true rfl) dX7_perform_156 (fun H locs hw => ?_)
    refine lv_goto (tgt := 218) hx hb dX7_perform_159 (by decide) ?_
    cases hf
    exact K _ _ _ _ dX7_perform_218 hw
  have hf := xif_f c5 hf
  by_cases c10 : (uT5 x2.toNatClampNeg) = 99
  · have hf := xif_t c10 hf
    refine x_tabI (k := 99) (off := 107) (tgt := 136) hx hb dX7_perform_29 c10 (by decide) (by decide) (by decide) ?_
    refine lv_aload_n hx hb dX7_perform_136 rfl (lv_at hl 3 rfl) ?_
    refine x_get (v := .ref (xAd κ (26 * wa + 8))) hc hw (ca_0 ha) fX7_116 rfl dX7_perform_137 ?_
    refine lv_iload_n hx hb dX7_perform_140 rfl (lv_at hl 2 rfl) ?_
    refine lv_iload hx hb dX7_perform_141 (lv_at hl 1 rfl) ?_
    refine lv_iload hx hb dX7_perform_143 (lv_at hl 0 rfl) ?_
    obtain ⟨v11, uC_12, h13, hf⟩ := xb2_of hf
    refine x_calliV (As := [.int (uT6 x2.toNatClampNeg), .int (uT7 x2.toNatClampNeg), .int (uT8 x2.toNatClampNeg)]) (rest := []) (σ' := (upA wA wa (uP, uC_12, uD, uJ, ur, ut, ud, ug), (uT0, uT1, uT2, uT3, uT4, uT5, uT6, uT7, uT8), wZ)) hc hw hl.1 (m_X1_addOne ha h13) kX7_120 (ca_8 ha) rfl rfl ⟨rfl, rfl⟩ ⟨Nat.le_of_ble_eq_true rfl, Nat.le_of_ble_eq_true rfl⟩ ⟨Nat.zero_le _, Nat.zero_le _⟩ (Nat.le_of_ble_eq_true rfl) dX7_perform_145 (fun H locs hw => ?_)
    refine lv_pop hx hb dX7_perform_148 rfl ?_
    refine lv_goto (tgt := 218) hx hb dX7_perform_149 (by decide) ?_
    cases hf
    exact K _ _ _ _ dX7_perform_218 hw
  have hf := xif_f c10 hf
  by_cases c14 : (uT5 x2.toNatClampNeg) = 100
  · have hf := xif_t c14 hf
    refine x_tabI (k := 100) (off := 133) (tgt := 162) hx hb dX7_perform_29 c14 (by decide) (by decide) (by decide) ?_
    refine lv_aload_n hx hb dX7_perform_162 rfl (lv_at hl 3 rfl) ?_
    refine lv_iload_n hx hb dX7_perform_163 rfl (lv_at hl 2 rfl) ?_
    refine lv_iload hx hb dX7_perform_164 (lv_at hl 0 rfl) ?_
    obtain ⟨uC_15, uJ_16, h17, hf⟩ := xb2_of hf
    refine x_callvV (As := [.int (uT6 x2.toNatClampNeg), .int (uT8 x2.toNatClampNeg)]) (rest := []) (σ' := (upA wA wa (uP, uC_15, uD, uJ_16, ur, ut, ud, ug), (uT0, uT1, uT2, uT3, uT4, uT5, uT6, uT7, uT8), wZ)) hc hw hl.1 (m_X0_makeDismissal ha h17) kX7_135 (ca_0 ha) rfl rfl ⟨rfl, rfl⟩ ⟨Nat.le_of_ble_eq_true rfl, Nat.le_of_ble_eq_true rfl⟩ ⟨Nat.zero_le _, Nat.zero_le _⟩ (Nat.le_of_ble_eq_true rfl) dX7_perform_166 (fun H locs hw => ?_)
    refine lv_goto (tgt := 218) hx hb dX7_perform_169 (by decide) ?_
    cases hf
    exact K _ _ _ _ dX7_perform_218 hw
  have hf := xif_f c14 hf
  by_cases c18 : (uT5 x2.toNatClampNeg) = 110
  · have hf := xif_t c18 hf
    refine x_tabI (k := 110) (off := 176) (tgt := 205) hx hb dX7_perform_29 c18 (by decide) (by decide) (by decide) ?_
    refine lv_aload_n hx hb dX7_perform_205 rfl (lv_at hl 3 rfl) ?_
    refine lv_iload_n hx hb dX7_perform_206 rfl (lv_at hl 2 rfl) ?_
    obtain ⟨v19, uD_20, ud_21, h22, hf⟩ := xb3_of hf
    refine x_calllV (As := [.int (uT6 x2.toNatClampNeg)]) (rest := []) (σ' := (upA wA wa (uP, uC, uD_20, uJ, ur, ut, ud_21, ug), (uT0, uT1, uT2, uT3, uT4, uT5, uT6, uT7, uT8), wZ)) hc hw hl.1 (m_X0_letDaysPass ha h22) kX7_264 (ca_0 ha) rfl rfl ⟨rfl, rfl⟩ ⟨Nat.le_of_ble_eq_true rfl, Nat.le_of_ble_eq_true rfl⟩ ⟨Nat.zero_le _, Nat.zero_le _⟩ (Nat.le_of_ble_eq_true rfl) dX7_perform_207 (fun H locs hw => ?_)
    refine lv_pop2_2 hx hb dX7_perform_210 rfl ?_
    refine lv_goto (tgt := 218) hx hb dX7_perform_211 (by decide) ?_
    cases hf
    exact K _ _ _ _ dX7_perform_218 hw
  have hf := xif_f c18 hf
  by_cases c23 : (uT5 x2.toNatClampNeg) = 112
  · have hf := xif_t c23 hf
    refine x_tabI (k := 112) (off := 153) (tgt := 182) hx hb dX7_perform_29 c23 (by decide) (by decide) (by decide) ?_
    refine lv_aload_n hx hb dX7_perform_182 rfl (lv_at hl 3 rfl) ?_
    refine lv_iload_n hx hb dX7_perform_183 rfl (lv_at hl 2 rfl) ?_
    refine lv_iload hx hb dX7_perform_184 (lv_at hl 0 rfl) ?_
    refine lv_i2l (v := (uT8 x2.toNatClampNeg).toInt64) hx hb dX7_perform_186 rfl ?_
    obtain ⟨uP_24, uJ_25, h26, hf⟩ := xb2_of hf
    refine x_callvV (As := [.int (uT6 x2.toNatClampNeg), .long (uT8 x2.toNatClampNeg).toInt64]) (rest := []) (σ' := (upA wA wa (uP_24, uC, uD, uJ_25, ur, ut, ud, ug), (uT0, uT1, uT2, uT3, uT4, uT5, uT6, uT7, uT8), wZ)) hc hw hl.1 (m_X0_makePayment ha h26) kX7_183 (ca_0 ha) rfl rfl ⟨rfl, rfl⟩ ⟨Nat.le_of_ble_eq_true rfl, Nat.le_of_ble_eq_true rfl⟩ ⟨Nat.zero_le _, Nat.zero_le _⟩ (Nat.le_of_ble_eq_true rfl) dX7_perform_187 (fun H locs hw => ?_)
    refine lv_goto (tgt := 218) hx hb dX7_perform_190 (by decide) ?_
    cases hf
    exact K _ _ _ _ dX7_perform_218 hw
  have hf := xif_f c23 hf
  by_cases c27 : (uT5 x2.toNatClampNeg) = 115
  · have hf := xif_t c27 hf
    refine x_tabI (k := 115) (off := 164) (tgt := 193) hx hb dX7_perform_29 c27 (by decide) (by decide) (by decide) ?_
    refine lv_aload_n hx hb dX7_perform_193 rfl (lv_at hl 3 rfl) ?_
    refine lv_iload_n hx hb dX7_perform_194 rfl (lv_at hl 2 rfl) ?_
    refine lv_iload hx hb dX7_perform_195 (lv_at hl 1 rfl) ?_
    refine lv_iload hx hb dX7_perform_197 (lv_at hl 0 rfl) ?_
    obtain ⟨uD_28, uJ_29, h30, hf⟩ := xb2_of hf
    refine x_callvV (As := [.int (uT6 x2.toNatClampNeg), .int (uT7 x2.toNatClampNeg), .int (uT8 x2.toNatClampNeg)]) (rest := []) (σ' := (upA wA wa (uP, uC, uD_28, uJ_29, ur, ut, ud, ug), (uT0, uT1, uT2, uT3, uT4, uT5, uT6, uT7, uT8), wZ)) hc hw hl.1 (m_X0_makeSettlement ha h30) kX7_224 (ca_0 ha) rfl rfl ⟨rfl, rfl⟩ ⟨Nat.le_of_ble_eq_true rfl, Nat.le_of_ble_eq_true rfl⟩ ⟨Nat.zero_le _, Nat.zero_le _⟩ (Nat.le_of_ble_eq_true rfl) dX7_perform_199 (fun H locs hw => ?_)
    refine lv_goto (tgt := 218) hx hb dX7_perform_202 (by decide) ?_
    cases hf
    exact K _ _ _ _ dX7_perform_218 hw
  have hf := xif_f c27 hf
  by_cases c31 : (uT5 x2.toNatClampNeg) = 119
  · have hf := xif_t c31 hf
    refine x_tabI (k := 119) (off := 143) (tgt := 172) hx hb dX7_perform_29 c31 (by decide) (by decide) (by decide) ?_
    refine lv_aload_n hx hb dX7_perform_172 rfl (lv_at hl 3 rfl) ?_
    refine lv_iload_n hx hb dX7_perform_173 rfl (lv_at hl 2 rfl) ?_
    refine lv_iload hx hb dX7_perform_174 (lv_at hl 0 rfl) ?_
    obtain ⟨uC_32, uJ_33, h34, hf⟩ := xb2_of hf
    refine x_callvV (As := [.int (uT6 x2.toNatClampNeg), .int (uT8 x2.toNatClampNeg)]) (rest := []) (σ' := (upA wA wa (uP, uC_32, uD, uJ_33, ur, ut, ud, ug), (uT0, uT1, uT2, uT3, uT4, uT5, uT6, uT7, uT8), wZ)) hc hw hl.1 (m_X0_makeWithdrawal ha h34) kX7_141 (ca_0 ha) rfl rfl ⟨rfl, rfl⟩ ⟨Nat.le_of_ble_eq_true rfl, Nat.le_of_ble_eq_true rfl⟩ ⟨Nat.zero_le _, Nat.zero_le _⟩ (Nat.le_of_ble_eq_true rfl) dX7_perform_176 (fun H locs hw => ?_)
    refine lv_goto (tgt := 218) hx hb dX7_perform_179 (by decide) ?_
    cases hf
    exact K _ _ _ _ dX7_perform_218 hw
  have hf := xif_f c31 hf
  have c5 := x_neT (z := 97) c5 (by decide)
  have c10 := x_neT (z := 99) c10 (by decide)
  have c14 := x_neT (z := 100) c14 (by decide)
  have c18 := x_neT (z := 110) c18 (by decide)
  have c23 := x_neT (z := 112) c23 (by decide)
  have c27 := x_neT (z := 115) c27 (by decide)
  have c31 := x_neT (z := 119) c31 (by decide)
  refine x_tabD (tgt := 214) hx hb dX7_perform_29 ?_ (by decide) ?_
  · by_cases q1 : (uT5 x2.toNatClampNeg).toInt < 97
    · exact Or.inl q1
    by_cases q2 : 119 < (uT5 x2.toNatClampNeg).toInt
    · exact Or.inr (Or.inl q2)
    have q3 : (uT5 x2.toNatClampNeg).toInt = 98 ∨ (uT5 x2.toNatClampNeg).toInt = 101 ∨ (uT5 x2.toNatClampNeg).toInt = 102 ∨ (uT5 x2.toNatClampNeg).toInt = 103 ∨ (uT5 x2.toNatClampNeg).toInt = 104 ∨ (uT5 x2.toNatClampNeg).toInt = 105 ∨ (uT5 x2.toNatClampNeg).toInt = 106 ∨ (uT5 x2.toNatClampNeg).toInt = 107 ∨ (uT5 x2.toNatClampNeg).toInt = 108 ∨ (uT5 x2.toNatClampNeg).toInt = 109 ∨ (uT5 x2.toNatClampNeg).toInt = 111 ∨ (uT5 x2.toNatClampNeg).toInt = 113 ∨ (uT5 x2.toNatClampNeg).toInt = 114 ∨ (uT5 x2.toNatClampNeg).toInt = 116 ∨ (uT5 x2.toNatClampNeg).toInt = 117 ∨ (uT5 x2.toNatClampNeg).toInt = 118 := by omega
    refine Or.inr (Or.inr ?_)
    rcases q3 with q3 | q3 | q3 | q3 | q3 | q3 | q3 | q3 | q3 | q3 | q3 | q3 | q3 | q3 | q3 | q3 <;> (rw [q3]; decide)
  refine lv_aload_n hx hb dX7_perform_214 rfl (lv_at hl 3 rfl) ?_
  obtain ⟨ug_35, h36, hf⟩ := xb1_of hf
  refine x_callvV (As := []) (rest := []) (σ' := (upA wA wa (uP, uC, uD, uJ, ur, ut, ud, ug_35), (uT0, uT1, uT2, uT3, uT4, uT5, uT6, uT7, uT8), wZ)) hc hw hl.1 (m_X0_enterNextStage ha h36) kX7_271 (ca_0 ha) rfl rfl ⟨rfl, rfl⟩ ⟨Nat.le_of_ble_eq_true rfl, Nat.le_of_ble_eq_true rfl⟩ ⟨Nat.zero_le _, Nat.zero_le _⟩ (Nat.le_of_ble_eq_true rfl) dX7_perform_215 (fun H locs hw => ?_)
  cases hf
  exact K _ _ _ _ dX7_perform_218 hw
def f_X7_performAll_2 (fu : Nat) (ur : xF32) (uT4 : Int32) (uT5 : xF32) (uT6 : xF32) (uT7 : xF32) (uT8 : xF32) : Nat → (Int32) → (sPar) → (sCla) → (sDeb) → (sJou) → (Int32) → (Int32) → Option (Int32 × sPar × sCla × sDeb × sJou × Int32 × Int32)
  | 0, _, _, _, _, _, _, _ => none
  | n + 1, x2, uP, uC, uD, uJ, ud, ug => if uT4 ≤ x2 then (some (0, uP, uC, uD, uJ, ud, ug)) else (xb1 (f_X7_faultOfCommand fu x2 uP uC uD ud ug uT5 uT6 uT7 uT8) fun v2 => (if v2 = 0 then (xb6 (f_X7_perform fu x2 uP uC uD uJ ur ud ug uT5 uT6 uT7 uT8) fun uP_5 uC_6 uD_7 uJ_8 ud_9 ug_10 => (f_X7_performAll_2 fu ur uT4 uT5 uT6 uT7 uT8 n (x2 + 1) uP_5 uC_6 uD_7 uJ_8 ud_9 ug_10)) else (some (v2, uP, uC, uD, uJ, ud, ug))))
def f_X7_performAll (fu : Nat) (uP : sPar) (uC : sCla) (uD : sDeb) (uJ : sJou) (ur : xF32) (ud : Int32) (ug : Int32) (uT4 : Int32) (uT5 : xF32) (uT6 : xF32) (uT7 : xF32) (uT8 : xF32) : Option (Int32 × sPar × sCla × sDeb × sJou × Int32 × Int32) :=
  f_X7_performAll_2 fu ur uT4 uT5 uT6 uT7 uT8 fu 0 uP uC uD uJ ud ug
set_option maxHeartbeats 4000000 in
set_option maxRecDepth 100000 in
theorem l_X7_performAll_2 {l : Launch} {κ : xKt} {wA : Nat → sAcc} {wa : Nat} {wZ : sRng × sMai × sRef × sOut} (ha : wa < 9) {fu : Nat} {ur : xF32} {ut : xF32} {uT0 : Int32} {uT1 : xF32} {uT2 : Int32} {uT3 : Int32} {uT4 : Int32} {uT5 : xF32} {uT6 : xF32} {uT7 : xF32} {uT8 : xF32} {A : Nat → Prop} {p : Program} {e : Env} {s : State} {m : MethodId} {args : Array Value} {below : List Frame} {meth : Method} {c : Code} {Q : State → Prop} {rr : Int32} {yP : sPar} {yC : sCla} {yD : sDeb} {yJ : sJou} {yd : Int32} {yg : Int32}
    (hc : xC κ A p s m args meth c cX7_performAll RX7 4 (some .int))
    (K : ∀ (pc : Nat) (ls : Array Slot) (H : Heap) (locs : List Loc), decode cX7_performAll pc = .ok (.ireturn, 1) → narrow .int (.int rr) = .int rr → xW κ A s (upA wA wa (yP, yC, yD, yJ, ur, ut, yd, yg), (uT0, uT1, uT2, uT3, uT4, uT5, uT6, uT7, uT8), wZ) H locs → W p l e (xR 4 0 0) s m args below meth c H locs 0 0 Q (F0 m pc ls [.int rr])) :
    ∀ (n : Nat) (x2 : Int32) (uP : sPar) (uC : sCla) (uD : sDeb) (uJ : sJou) (ud : Int32) (ug : Int32) (H : Heap) (locs : List Loc) (ls : Array Slot), f_X7_performAll_2 fu ur uT4 uT5 uT6 uT7 uT8 n x2 uP uC uD uJ ud ug = some (rr, yP, yC, yD, yJ, yd, yg) → xW κ A s (upA wA wa (uP, uC, uD, uJ, ur, ut, ud, ug), (uT0, uT1, uT2, uT3, uT4, uT5, uT6, uT7, uT8), wZ) H locs → lv_has ls 4 [(0, .ref (xAd κ (26 * wa))), (1, .ref (xAd κ 236)), (2, .int x2)] → W p l e (xR 4 0 0) s m args below meth c H locs 0 0 Q (F0 m 2 ls []) := by
  have hx := hc.1.1
  have hb := hc.1.2.1
  intro n
  induction n with
  | zero =>
    intro x2 uP uC uD uJ ud ug H locs ls hf
    rw [f_X7_performAll_2] at hf
    cases hf
  | succ n hi =>
    intro x2 uP uC uD uJ ud ug H locs ls hf hw hl
    rw [f_X7_performAll_2] at hf
    refine lv_iload_n hx hb dX7_performAll_2 rfl (lv_at hl 2 rfl) ?_
    refine lv_aload_n hx hb dX7_performAll_3 rfl (lv_at hl 1 rfl) ?_
    refine x_get (v := .int uT4) hc hw co_236 fX7_328 rfl dX7_performAll_4 ?_
    refine lv_icmp_ge (tgt := 35) hx hb dX7_performAll_7 (by decide) (fun c1 => ?_) (fun c1 => ?_)
    · have hf := xif_t c1 hf
      refine lv_iconst (v := 0) hx hb dX7_performAll_35 (by decide) ?_
      cases hf
      exact K _ _ _ _ dX7_performAll_36 rfl hw
    · have hf := xif_f c1 hf
      refine lv_aload_n hx hb dX7_performAll_10 rfl (lv_at hl 0 rfl) ?_
      refine lv_aload_n hx hb dX7_performAll_11 rfl (lv_at hl 1 rfl) ?_
      refine lv_iload_n hx hb dX7_performAll_12 rfl (lv_at hl 2 rfl) ?_
      obtain ⟨v2, h3, hf⟩ := xb1_of hf
      refine x_calliS (As := [.ref (xAd κ (26 * wa)), .ref (xAd κ 236), .int x2]) (rest := []) (σ' := (upA wA wa (uP, uC, uD, uJ, ur, ut, ud, ug), (uT0, uT1, uT2, uT3, uT4, uT5, uT6, uT7, uT8), wZ)) hc hw hl.1 (m_X7_faultOfCommand ha h3) kX7_339 rfl rfl ⟨rfl, rfl⟩ ⟨Nat.le_of_ble_eq_true rfl, Nat.le_of_ble_eq_true rfl⟩ ⟨Nat.zero_le _, Nat.zero_le _⟩ (Nat.le_of_ble_eq_true rfl) dX7_performAll_13 (fun H locs hw => ?_)
      refine lv_istore_n (lv' := [(3, .int v2), (0, .ref (xAd κ (26 * wa))), (1, .ref (xAd κ 236)), (2, .int x2)]) hx hb dX7_performAll_16 rfl hl (by decide) rfl (fun ls hl => ?_)
      refine lv_iload_n hx hb dX7_performAll_17 rfl (lv_at hl 0 rfl) ?_
      refine lv_if_eq (tgt := 23) hx hb dX7_performAll_18 (by decide) (fun c4 => ?_) (fun c4 => ?_)
      · have hf := xif_t c4 hf
        refine lv_aload_n hx hb dX7_performAll_23 rfl (lv_at hl 1 rfl) ?_
        refine lv_aload_n hx hb dX7_performAll_24 rfl (lv_at hl 2 rfl) ?_
        refine lv_iload_n hx hb dX7_performAll_25 rfl (lv_at hl 3 rfl) ?_
        obtain ⟨uP_5, uC_6, uD_7, uJ_8, ud_9, ug_10, h11, hf⟩ := xb6_of hf
        refine x_callvS (As := [.ref (xAd κ (26 * wa)), .ref (xAd κ 236), .int x2]) (rest := []) (σ' := (upA wA wa (uP_5, uC_6, uD_7, uJ_8, ur, ut, ud_9, ug_10), (uT0, uT1, uT2, uT3, uT4, uT5, uT6, uT7, uT8), wZ)) hc hw hl.1 (m_X7_perform ha h11) kX7_343 rfl rfl ⟨rfl, rfl⟩ ⟨Nat.le_of_ble_eq_true rfl, Nat.le_of_ble_eq_true rfl⟩ ⟨Nat.zero_le _, Nat.zero_le _⟩ (Nat.le_of_ble_eq_true rfl) dX7_performAll_26 (fun H locs hw => ?_)
        refine lv_iinc (v := (x2 + 1)) (lv' := [(2, .int (x2 + 1)), (3, .int v2), (0, .ref (xAd κ (26 * wa))), (1, .ref (xAd κ 236))]) hx hb dX7_performAll_29 hl (k := 3) rfl rfl (by decide) rfl (fun ls hl => ?_)
        refine lv_goto (tgt := 2) hx hb dX7_performAll_32 (by decide) ?_
        exact hi _ _ _ _ _ _ _ _ _ _ hf hw (lv_sub hl [2, 3, 0] rfl)
      · have hf := xif_f c4 hf
        refine lv_iload_n hx hb dX7_performAll_21 rfl (lv_at hl 0 rfl) ?_
        cases hf
        exact K _ _ _ _ dX7_performAll_22 rfl hw
set_option maxHeartbeats 4000000 in
set_option maxRecDepth 100000 in
theorem m_X7_performAll {l : Launch} {κ : xKt} {wA : Nat → sAcc} {wa : Nat} {wZ : sRng × sMai × sRef × sOut} (ha : wa < 9) {fu : Nat} {uP : sPar} {uC : sCla} {uD : sDeb} {uJ : sJou} {ur : xF32} {ut : xF32} {ud : Int32} {ug : Int32} {uT0 : Int32} {uT1 : xF32} {uT2 : Int32} {uT3 : Int32} {uT4 : Int32} {uT5 : xF32} {uT6 : xF32} {uT7 : xF32} {uT8 : xF32} {rr : Int32} {yP : sPar} {yC : sCla} {yD : sDeb} {yJ : sJou} {yd : Int32} {yg : Int32} (hf : f_X7_performAll fu uP uC uD uJ ur ud ug uT4 uT5 uT6 uT7 uT8 = some (rr, yP, yC, yD, yJ, yd, yg)) : xMi l κ yX7_performAll cX7_performAll 4 (some .int) (xR 4 0 0) [.ref (xAd κ (26 * wa)), .ref (xAd κ 236)] (upA wA wa (uP, uC, uD, uJ, ur, ut, ud, ug), (uT0, uT1, uT2, uT3, uT4, uT5, uT6, uT7, uT8), wZ) (upA wA wa (yP, yC, yD, yJ, ur, ut, yd, yg), (uT0, uT1, uT2, uT3, uT4, uT5, uT6, uT7, uT8), wZ) rr := by
  unfold f_X7_performAll at hf
  refine xMi_of pn_X7 (Nat.le_of_ble_eq_true rfl) ⟨rfl, rfl⟩ ?_
  intro A p e s m args below meth c ls Q hc hw hl K
  have hc : xC κ A p s m args meth c cX7_performAll RX7 4 (some .int) := hc
  have hx := hc.1.1
  have hb := hc.1.2.1
  have hl : lv_has ls 4 [(0, .ref (xAd κ (26 * wa))), (1, .ref (xAd κ 236))] := hl
  refine lv_iconst (v := 0) hx hb dX7_performAll_0 (by decide) ?_
  refine lv_istore_n (lv' := [(2, .int 0), (0, .ref (xAd κ (26 * wa))), (1, .ref (xAd κ 236))]) hx hb dX7_performAll_1 rfl hl (by decide) rfl (fun ls hl => ?_)
  exact l_X7_performAll_2 ha hc K fu _ _ _ _ _ _ _ _ _ _ hf hw (lv_sub hl [1, 2, 0] rfl)
def f_X7_read (fu : Nat) (uA : Nat → sAcc) (uP : sPar) (uC : sCla) (uD : sDeb) (uJ : sJou) (ur : xF32) (ut : xF32) (ud : Int32) (ug : Int32) (uT0 : Int32) (uT1 : xF32) (uT2 : Int32) (uT3 : Int32) (uT4 : Int32) (uT5 : xF32) (uT6 : xF32) (uT7 : xF32) (uT8 : xF32) (uM1 : Int32) (uM2 : Int32) (uM3 : Int32) (uM4 : Int32) : Option (Nat × Int32 × (Nat → sAcc) × sPar × sCla × sDeb × sJou × xF32 × xF32 × Int32 × Int32 × Int32 × Int32 × Int32 × Int32 × xF32 × xF32 × xF32 × xF32 × Int32 × Int32 × Int32 × Int32) :=
  xb8 (f_X6_parseAll fu uT0 uT1 uT2 uT3 uT4 uT5 uT6 uT7 uT8) fun v1 uT2_2 uT3_3 uT4_4 uT5_5 uT6_6 uT7_7 uT8_8 => (xb1 (f_X6_empty uT0) fun uT0_10 => (if v1 = 0 then (some (2, 0, uA, uP, uC, uD, uJ, ur, ut, ud, ug, uT0_10, uT2_2, uT3_3, uT4_4, uT5_5, uT6_6, uT7_7, uT8_8, uM1, uM2, uM3, uT2_2)) else (xk (xin uM1 7) (xb7 (f_X7_performAll fu uP uC uD uJ ur ud ug uT4_4 uT5_5 uT6_6 uT7_7 uT8_8) fun v14 uP_15 uC_16 uD_17 uJ_18 ud_19 ug_20 => (if v14 = 0 then (xb2 (f_X7_keepRow uM1 uM2) fun uM1_23 uM2_24 => (some (0, uT4_4, (upA uA (2 + uM1.toNatClampNeg) (uP, uC, uD, uJ, ur, ut, ud, ug)), uP_15, uC_16, uD_17, uJ_18, ur, ut, ud_19, ug_20, uT0_10, uT2_2, uT3_3, uT4_4, uT5_5, uT6_6, uT7_7, uT8_8, uM1_23, uM2_24, uM3, uM4))) else (xk (xin uM1 7) (xb1 (f_X7_keepReason v14 uM3) fun uM3_27 => (some (3, 0, (upA uA (2 + uM1.toNatClampNeg) (uP, uC, uD, uJ, ur, ut, ud, ug)), ((upA uA (2 + uM1.toNatClampNeg) (uP, uC, uD, uJ, ur, ut, ud, ug)) (2 + uM1.toNatClampNeg)).1, ((upA uA (2 + uM1.toNatClampNeg) (uP, uC, uD, uJ, ur, ut, ud, ug)) (2 + uM1.toNatClampNeg)).2.1, ((upA uA (2 + uM1.toNatClampNeg) (uP, uC, uD, uJ, ur, ut, ud, ug)) (2 + uM1.toNatClampNeg)).2.2.1, ((upA uA (2 + uM1.toNatClampNeg) (uP, uC, uD, uJ, ur, ut, ud, ug)) (2 + uM1.toNatClampNeg)).2.2.2.1, ((upA uA (2 + uM1.toNatClampNeg) (uP, uC, uD, uJ, ur, ut, ud, ug)) (2 + uM1.toNatClampNeg)).2.2.2.2.1, ((upA uA (2 + uM1.toNatClampNeg) (uP, uC, uD, uJ, ur, ut, ud, ug)) (2 + uM1.toNatClampNeg)).2.2.2.2.2.1, ((upA uA (2 + uM1.toNatClampNeg) (uP, uC, uD, uJ, ur, ut, ud, ug)) (2 + uM1.toNatClampNeg)).2.2.2.2.2.2.1, ((upA uA (2 + uM1.toNatClampNeg) (uP, uC, uD, uJ, ur, ut, ud, ug)) (2 + uM1.toNatClampNeg)).2.2.2.2.2.2.2, uT0_10, uT2_2, uT3_3, uT4_4, uT5_5, uT6_6, uT7_7, uT8_8, uM1, uM2, uM3_27, uM4)))))))))
set_option maxHeartbeats 4000000 in
set_option maxRecDepth 100000 in
theorem m_X7_read {l : Launch} {κ : xKt} {wZ : sRef × sOut} {fu : Nat} {uA : Nat → sAcc} {uP : sPar} {uC : sCla} {uD : sDeb} {uJ : sJou} {ur : xF32} {ut : xF32} {ud : Int32} {ug : Int32} {uT0 : Int32} {uT1 : xF32} {uT2 : Int32} {uT3 : Int32} {uT4 : Int32} {uT5 : xF32} {uT6 : xF32} {uT7 : xF32} {uT8 : xF32} {uG0 : Int32} {uG1 : xF32} {uG2 : xF32} {uM0 : Int32} {uM1 : Int32} {uM2 : Int32} {uM3 : Int32} {uM4 : Int32} {ec : Nat} {rr : Int32} {yA : Nat → sAcc} {yP : sPar} {yC : sCla} {yD : sDeb} {yJ : sJou} {yr : xF32} {yt : xF32} {yd : Int32} {yg : Int32} {yT0 : Int32} {yT2 : Int32} {yT3 : Int32} {yT4 : Int32} {yT5 : xF32} {yT6 : xF32} {yT7 : xF32} {yT8 : xF32} {yM1 : Int32} {yM2 : Int32} {yM3 : Int32} {yM4 : Int32} (hf : f_X7_read fu uA uP uC uD uJ ur ut ud ug uT0 uT1 uT2 uT3 uT4 uT5 uT6 uT7 uT8 uM1 uM2 uM3 uM4 = some (ec, rr, yA, yP, yC, yD, yJ, yr, yt, yd, yg, yT0, yT2, yT3, yT4, yT5, yT6, yT7, yT8, yM1, yM2, yM3, yM4)) : xTi l κ yX7_read cX7_read 3 (some .int) (xR 5 1 6) [.ref (xAd κ 234)] (upA uA 0 (uP, uC, uD, uJ, ur, ut, ud, ug), (uT0, uT1, uT2, uT3, uT4, uT5, uT6, uT7, uT8), (uG0, uG1, uG2), (uM0, uM1, uM2, uM3, uM4), wZ) (upA yA 0 (yP, yC, yD, yJ, yr, yt, yd, yg), (yT0, uT1, yT2, yT3, yT4, yT5, yT6, yT7, yT8), (uG0, uG1, uG2), (uM0, yM1, yM2, yM3, yM4), wZ) ec rr := by
  unfold f_X7_read at hf
  refine xTi_of pn_X7 (Nat.le_of_ble_eq_true rfl) ?_
  intro A p e s m args below meth c ls Q hlt hc hw hl K KX KO
  have hc : xC κ A p s m args meth c cX7_read RX7 3 (some .int) := hc
  have hx := hc.1.1
  have hb := hc.1.2.1
  have hl : lv_has ls 3 [(0, .ref (xAd κ 234))] := hl
  refine lv_aload_n hx hb dX7_read_0 rfl (lv_at hl 0 rfl) ?_
  refine x_get (v := .ref (xAd κ 236)) hc hw co_234 fX7_26 rfl dX7_read_1 ?_
  obtain ⟨v1, uT2_2, uT3_3, uT4_4, uT5_5, uT6_6, uT7_7, uT8_8, h9, hf⟩ := xb8_of hf
  refine x_calliV (As := []) (rest := []) (σ' := (upA uA 0 (uP, uC, uD, uJ, ur, ut, ud, ug), (uT0, uT1, uT2_2, uT3_3, uT4_4, uT5_5, uT6_6, uT7_7, uT8_8), (uG0, uG1, uG2), (uM0, uM1, uM2, uM3, uM4), wZ)) hc hw hl.1 (m_X6_parseAll h9) kX7_304 co_236 rfl rfl ⟨rfl, rfl⟩ ⟨Nat.le_of_ble_eq_true rfl, Nat.le_of_ble_eq_true rfl⟩ ⟨Nat.zero_le _, Nat.zero_le _⟩ (Nat.le_of_ble_eq_true rfl) dX7_read_4 (fun H locs hw => ?_)
  refine lv_istore_n (lv' := [(1, .int v1), (0, .ref (xAd κ 234))]) hx hb dX7_read_7 rfl hl (by decide) rfl (fun ls hl => ?_)
  refine lv_aload_n hx hb dX7_read_8 rfl (lv_at hl 1 rfl) ?_
  refine x_get (v := .ref (xAd κ 236)) hc hw co_234 fX7_26 rfl dX7_read_9 ?_
  obtain ⟨uT0_10, h11, hf⟩ := xb1_of hf
  refine x_callvV (As := []) (rest := []) (σ' := (upA uA 0 (uP, uC, uD, uJ, ur, ut, ud, ug), (uT0_10, uT1, uT2_2, uT3_3, uT4_4, uT5_5, uT6_6, uT7_7, uT8_8), (uG0, uG1, uG2), (uM0, uM1, uM2, uM3, uM4), wZ)) hc hw hl.1 (m_X6_empty h11) kX7_308 co_236 rfl rfl ⟨rfl, rfl⟩ ⟨Nat.le_of_ble_eq_true rfl, Nat.le_of_ble_eq_true rfl⟩ ⟨Nat.zero_le _, Nat.zero_le _⟩ (Nat.le_of_ble_eq_true rfl) dX7_read_12 (fun H locs hw => ?_)
  refine lv_iload_n hx hb dX7_read_15 rfl (lv_at hl 0 rfl) ?_
  refine lv_if_ne (tgt := 38) hx hb dX7_read_16 (by decide) (fun c12 => ?_) (fun c12 => ?_)
  · have hf := xif_f c12 hf
    refine lv_aload_n hx hb dX7_read_38 rfl (lv_at hl 1 rfl) ?_
    refine x_get (v := .ref (xAd κ 235)) hc hw co_234 fX7_19 rfl dX7_read_39 ?_
    refine lv_aload_n hx hb dX7_read_42 rfl (lv_at hl 1 rfl) ?_
    refine x_get (v := .int uM1) hc hw co_234 fX7_41 rfl dX7_read_43 ?_
    obtain ⟨k13, hf⟩ := xk_of hf
    refine x_aald hc hw (n := 7) (f := fun i => some (xAd κ (26 * (2 + i)))) co_235 k13 dX7_read_46 ?_
    have hh9 := xin_h9 k13
    have hh0 := xin_h0 k13
    refine lv_aload_n hx hb dX7_read_47 rfl (lv_at hl 1 rfl) ?_
    refine x_get (v := .ref (xAd κ (26 * 0))) hc hw co_234 fX7_10 rfl dX7_read_48 ?_
    refine x_callvV (As := [.ref (xAd κ (26 * 0))]) (rest := []) hc hw hl.1 (m_X0_copyFrom hh9 z9 hh0) kX7_314 (xc_accA (j := 0) hh9 (by decide) rfl) rfl rfl ⟨rfl, rfl⟩ ⟨Nat.le_of_ble_eq_true rfl, Nat.le_of_ble_eq_true rfl⟩ ⟨Nat.zero_le _, Nat.zero_le _⟩ (Nat.le_of_ble_eq_true rfl) dX7_read_51 (fun H locs hw => ?_)
    rw [upA_out (by first | exact hh0 | decide)] at hw
    have hw : xW κ A s (upA (upA uA (2 + uM1.toNatClampNeg) (uP, uC, uD, uJ, ur, ut, ud, ug)) 0 (uP, uC, uD, uJ, ur, ut, ud, ug), (uT0_10, uT1, uT2_2, uT3_3, uT4_4, uT5_5, uT6_6, uT7_7, uT8_8), (uG0, uG1, uG2), (uM0, uM1, uM2, uM3, uM4), wZ) H locs := hw
    refine lv_aload_n hx hb dX7_read_54 rfl (lv_at hl 1 rfl) ?_
    refine x_get (v := .ref (xAd κ (26 * 0))) hc hw co_234 fX7_10 rfl dX7_read_55 ?_
    refine lv_aload_n hx hb dX7_read_58 rfl (lv_at hl 1 rfl) ?_
    refine x_get (v := .ref (xAd κ 236)) hc hw co_234 fX7_26 rfl dX7_read_59 ?_
    obtain ⟨v14, uP_15, uC_16, uD_17, uJ_18, ud_19, ug_20, h21, hf⟩ := xb7_of hf
    refine x_calliS (As := [.ref (xAd κ (26 * 0)), .ref (xAd κ 236)]) (rest := []) (σ' := (upA (upA uA (2 + uM1.toNatClampNeg) (uP, uC, uD, uJ, ur, ut, ud, ug)) 0 (uP_15, uC_16, uD_17, uJ_18, ur, ut, ud_19, ug_20), (uT0_10, uT1, uT2_2, uT3_3, uT4_4, uT5_5, uT6_6, uT7_7, uT8_8), (uG0, uG1, uG2), (uM0, uM1, uM2, uM3, uM4), wZ)) hc hw hl.1 (m_X7_performAll z9 h21) kX7_318 rfl rfl ⟨rfl, rfl⟩ ⟨Nat.le_of_ble_eq_true rfl, Nat.le_of_ble_eq_true rfl⟩ ⟨Nat.zero_le _, Nat.zero_le _⟩ (Nat.le_of_ble_eq_true rfl) dX7_read_62 (fun H locs hw => ?_)
    refine lv_istore_n (lv' := [(2, .int v14), (1, .int v1), (0, .ref (xAd κ 234))]) hx hb dX7_read_65 rfl hl (by decide) rfl (fun ls hl => ?_)
    refine lv_iload_n hx hb dX7_read_66 rfl (lv_at hl 0 rfl) ?_
    refine lv_if_eq (tgt := 99) hx hb dX7_read_67 (by decide) (fun c22 => ?_) (fun c22 => ?_)
    · have hf := xif_t c22 hf
      refine lv_aload_n hx hb dX7_read_99 rfl (lv_at hl 2 rfl) ?_
      obtain ⟨uM1_23, uM2_24, h25, hf⟩ := xb2_of hf
      refine x_callvV (As := []) (rest := []) (σ' := (upA (upA uA (2 + uM1.toNatClampNeg) (uP, uC, uD, uJ, ur, ut, ud, ug)) 0 (uP_15, uC_16, uD_17, uJ_18, ur, ut, ud_19, ug_20), (uT0_10, uT1, uT2_2, uT3_3, uT4_4, uT5_5, uT6_6, uT7_7, uT8_8), (uG0, uG1, uG2), (uM0, uM1_23, uM2_24, uM3, uM4), wZ)) hc hw hl.1 (m_X7_keepRow h25) kX7_325 co_234 rfl rfl ⟨rfl, rfl⟩ ⟨Nat.le_of_ble_eq_true rfl, Nat.le_of_ble_eq_true rfl⟩ ⟨Nat.zero_le _, Nat.zero_le _⟩ (Nat.le_of_ble_eq_true rfl) dX7_read_100 (fun H locs hw => ?_)
      refine lv_aload_n hx hb dX7_read_103 rfl (lv_at hl 2 rfl) ?_
      refine x_get (v := .ref (xAd κ 236)) hc hw co_234 fX7_26 rfl dX7_read_104 ?_
      refine x_get (v := .int uT4_4) hc hw co_236 fX7_328 rfl dX7_read_107 ?_
      cases hf
      exact K _ _ _ _ _ _ (by decide) (by decide) dX7_read_110 rfl rfl hw
    · have hf := xif_f c22 hf
      refine lv_aload_n hx hb dX7_read_70 rfl (lv_at hl 2 rfl) ?_
      refine x_get (v := .ref (xAd κ (26 * 0))) hc hw co_234 fX7_10 rfl dX7_read_71 ?_
      refine lv_aload_n hx hb dX7_read_74 rfl (lv_at hl 2 rfl) ?_
      refine x_get (v := .ref (xAd κ 235)) hc hw co_234 fX7_19 rfl dX7_read_75 ?_
      refine lv_aload_n hx hb dX7_read_78 rfl (lv_at hl 2 rfl) ?_
      refine x_get (v := .int uM1) hc hw co_234 fX7_41 rfl dX7_read_79 ?_
      obtain ⟨k26, hf⟩ := xk_of hf
      refine x_aald hc hw (n := 7) (f := fun i => some (xAd κ (26 * (2 + i)))) co_235 k26 dX7_read_82 ?_
      have hh9 := xin_h9 k26
      have hh0 := xin_h0 k26
      refine x_callvV (As := [.ref (xAd κ (26 * (2 + uM1.toNatClampNeg)))]) (rest := []) hc hw hl.1 (m_X0_copyFrom z9 hh9 hh0.symm) kX7_314 (xc_accA (j := 0) z9 (by decide) rfl) rfl rfl ⟨rfl, rfl⟩ ⟨Nat.le_of_ble_eq_true rfl, Nat.le_of_ble_eq_true rfl⟩ ⟨Nat.zero_le _, Nat.zero_le _⟩ (Nat.le_of_ble_eq_true rfl) dX7_read_83 (fun H locs hw => ?_)
      rw [upA_in (by first | exact hh0 | decide)] at hw
      have hw : xW κ A s (upA (upA uA (2 + uM1.toNatClampNeg) (uP, uC, uD, uJ, ur, ut, ud, ug)) 0 (((upA uA (2 + uM1.toNatClampNeg) (uP, uC, uD, uJ, ur, ut, ud, ug)) (2 + uM1.toNatClampNeg)).1, ((upA uA (2 + uM1.toNatClampNeg) (uP, uC, uD, uJ, ur, ut, ud, ug)) (2 + uM1.toNatClampNeg)).2.1, ((upA uA (2 + uM1.toNatClampNeg) (uP, uC, uD, uJ, ur, ut, ud, ug)) (2 + uM1.toNatClampNeg)).2.2.1, ((upA uA (2 + uM1.toNatClampNeg) (uP, uC, uD, uJ, ur, ut, ud, ug)) (2 + uM1.toNatClampNeg)).2.2.2.1, ((upA uA (2 + uM1.toNatClampNeg) (uP, uC, uD, uJ, ur, ut, ud, ug)) (2 + uM1.toNatClampNeg)).2.2.2.2.1, ((upA uA (2 + uM1.toNatClampNeg) (uP, uC, uD, uJ, ur, ut, ud, ug)) (2 + uM1.toNatClampNeg)).2.2.2.2.2.1, ((upA uA (2 + uM1.toNatClampNeg) (uP, uC, uD, uJ, ur, ut, ud, ug)) (2 + uM1.toNatClampNeg)).2.2.2.2.2.2.1, ((upA uA (2 + uM1.toNatClampNeg) (uP, uC, uD, uJ, ur, ut, ud, ug)) (2 + uM1.toNatClampNeg)).2.2.2.2.2.2.2), (uT0_10, uT1, uT2_2, uT3_3, uT4_4, uT5_5, uT6_6, uT7_7, uT8_8), (uG0, uG1, uG2), (uM0, uM1, uM2, uM3, uM4), wZ) H locs := hw
      refine lv_aload_n hx hb dX7_read_86 rfl (lv_at hl 2 rfl) ?_
      refine lv_iload_n hx hb dX7_read_87 rfl (lv_at hl 0 rfl) ?_
      obtain ⟨uM3_27, h28, hf⟩ := xb1_of hf
      refine x_callvV (As := [.int v14]) (rest := []) (σ' := (upA (upA uA (2 + uM1.toNatClampNeg) (uP, uC, uD, uJ, ur, ut, ud, ug)) 0 (((upA uA (2 + uM1.toNatClampNeg) (uP, uC, uD, uJ, ur, ut, ud, ug)) (2 + uM1.toNatClampNeg)).1, ((upA uA (2 + uM1.toNatClampNeg) (uP, uC, uD, uJ, ur, ut, ud, ug)) (2 + uM1.toNatClampNeg)).2.1, ((upA uA (2 + uM1.toNatClampNeg) (uP, uC, uD, uJ, ur, ut, ud, ug)) (2 + uM1.toNatClampNeg)).2.2.1, ((upA uA (2 + uM1.toNatClampNeg) (uP, uC, uD, uJ, ur, ut, ud, ug)) (2 + uM1.toNatClampNeg)).2.2.2.1, ((upA uA (2 + uM1.toNatClampNeg) (uP, uC, uD, uJ, ur, ut, ud, ug)) (2 + uM1.toNatClampNeg)).2.2.2.2.1, ((upA uA (2 + uM1.toNatClampNeg) (uP, uC, uD, uJ, ur, ut, ud, ug)) (2 + uM1.toNatClampNeg)).2.2.2.2.2.1, ((upA uA (2 + uM1.toNatClampNeg) (uP, uC, uD, uJ, ur, ut, ud, ug)) (2 + uM1.toNatClampNeg)).2.2.2.2.2.2.1, ((upA uA (2 + uM1.toNatClampNeg) (uP, uC, uD, uJ, ur, ut, ud, ug)) (2 + uM1.toNatClampNeg)).2.2.2.2.2.2.2), (uT0_10, uT1, uT2_2, uT3_3, uT4_4, uT5_5, uT6_6, uT7_7, uT8_8), (uG0, uG1, uG2), (uM0, uM1, uM2, uM3_27, uM4), wZ)) hc hw hl.1 (m_X7_keepReason h28) kX7_322 co_234 rfl rfl ⟨rfl, rfl⟩ ⟨Nat.le_of_ble_eq_true rfl, Nat.le_of_ble_eq_true rfl⟩ ⟨Nat.zero_le _, Nat.zero_le _⟩ (Nat.le_of_ble_eq_true rfl) dX7_read_88 (fun H locs hw => ?_)
      cases hf
      exact KX _ _ _ _ _ _ _ (by decide) tX7_77 dX7_read_91 dX7_read_94 dX7_read_95 dX7_read_98 hl.1 (Nat.le_of_ble_eq_true rfl) hw
  · have hf := xif_t c12 hf
    refine lv_aload_n hx hb dX7_read_19 rfl (lv_at hl 1 rfl) ?_
    refine lv_aload_n hx hb dX7_read_20 rfl (lv_at hl 1 rfl) ?_
    refine x_get (v := .ref (xAd κ 236)) hc hw co_234 fX7_26 rfl dX7_read_21 ?_
    refine x_get (v := .int uT2_2) hc hw co_236 fX7_311 rfl dX7_read_24 ?_
    refine x_put (σ' := (upA uA 0 (uP, uC, uD, uJ, ur, ut, ud, ug), (uT0_10, uT1, uT2_2, uT3_3, uT4_4, uT5_5, uT6_6, uT7_7, uT8_8), (uG0, uG1, uG2), (uM0, uM1, uM2, uM3, uT2_2), wZ)) hc hw co_234 fX7_51 rfl rfl (Nat.le_of_ble_eq_true rfl) so_M_4 dX7_read_27 (fun H locs hw => ?_)
    cases hf
    exact KX _ _ _ _ _ _ _ (by decide) tX7_74 dX7_read_30 dX7_read_33 dX7_read_34 dX7_read_37 hl.1 (Nat.le_of_ble_eq_true rfl) hw
def f_X7_errorPosition (uM4 : Int32) : Option (Nat × Int32) :=
  if uM4 = (-1) then (some (5, 0)) else (some (0, uM4))
set_option maxHeartbeats 4000000 in
set_option maxRecDepth 100000 in
theorem m_X7_errorPosition {l : Launch} {κ : xKt} {wZ : sRef × sOut}  {uA : Nat → sAcc} {uP : sPar} {uC : sCla} {uD : sDeb} {uJ : sJou} {ur : xF32} {ut : xF32} {ud : Int32} {ug : Int32} {uT0 : Int32} {uT1 : xF32} {uT2 : Int32} {uT3 : Int32} {uT4 : Int32} {uT5 : xF32} {uT6 : xF32} {uT7 : xF32} {uT8 : xF32} {uG0 : Int32} {uG1 : xF32} {uG2 : xF32} {uM0 : Int32} {uM1 : Int32} {uM2 : Int32} {uM3 : Int32} {uM4 : Int32} {ec : Nat} {rr : Int32} (hf : f_X7_errorPosition uM4 = some (ec, rr)) : xTi l κ yX7_errorPosition cX7_errorPosition 1 (some .int) (xR 0 1 6) [.ref (xAd κ 234)] (upA uA 0 (uP, uC, uD, uJ, ur, ut, ud, ug), (uT0, uT1, uT2, uT3, uT4, uT5, uT6, uT7, uT8), (uG0, uG1, uG2), (uM0, uM1, uM2, uM3, uM4), wZ) (upA uA 0 (uP, uC, uD, uJ, ur, ut, ud, ug), (uT0, uT1, uT2, uT3, uT4, uT5, uT6, uT7, uT8), (uG0, uG1, uG2), (uM0, uM1, uM2, uM3, uM4), wZ) ec rr := by
  unfold f_X7_errorPosition at hf
  refine xTi_of pn_X7 (Nat.le_of_ble_eq_true rfl) ?_
  intro A p e s m args below meth c ls Q hlt hc hw hl K KX KO
  have hc : xC κ A p s m args meth c cX7_errorPosition RX7 1 (some .int) := hc
  have hx := hc.1.1
  have hb := hc.1.2.1
  have hl : lv_has ls 1 [(0, .ref (xAd κ 234))] := hl
  refine lv_aload_n hx hb dX7_errorPosition_0 rfl (lv_at hl 0 rfl) ?_
  refine x_get (v := .int uM4) hc hw co_234 fX7_51 rfl dX7_errorPosition_1 ?_
  refine lv_iconst (v := (-1)) hx hb dX7_errorPosition_4 (by decide) ?_
  refine lv_icmp_ne (tgt := 16) hx hb dX7_errorPosition_5 (by decide) (fun c1 => ?_) (fun c1 => ?_)
  · have hf := xif_f c1 hf
    refine lv_aload_n hx hb dX7_errorPosition_16 rfl (lv_at hl 0 rfl) ?_
    refine x_get (v := .int uM4) hc hw co_234 fX7_51 rfl dX7_errorPosition_17 ?_
    cases hf
    exact K _ _ _ _ _ _ (by decide) (by decide) dX7_errorPosition_20 rfl rfl hw
  · have hf := xif_t c1 hf
    cases hf
    exact KX _ _ _ _ _ _ _ (by decide) tX7_148 dX7_errorPosition_8 dX7_errorPosition_11 dX7_errorPosition_12 dX7_errorPosition_15 hl.1 (Nat.le_of_ble_eq_true rfl) hw
def f_X7_undo (uA : Nat → sAcc) (uP : sPar) (uC : sCla) (uD : sDeb) (uJ : sJou) (ur : xF32) (ut : xF32) (ud : Int32) (ug : Int32) (uM1 : Int32) (uM2 : Int32) : Option (Nat × Int32 × sPar × sCla × sDeb × sJou × xF32 × xF32 × Int32 × Int32 × Int32 × Int32) :=
  if 0 < uM2 then (if uM1 ≤ 0 then (xk (xin 6 7) (some (0, (uM2 - 1), (uA (2 + (6 : Int32).toNatClampNeg)).1, (uA (2 + (6 : Int32).toNatClampNeg)).2.1, (uA (2 + (6 : Int32).toNatClampNeg)).2.2.1, (uA (2 + (6 : Int32).toNatClampNeg)).2.2.2.1, (uA (2 + (6 : Int32).toNatClampNeg)).2.2.2.2.1, (uA (2 + (6 : Int32).toNatClampNeg)).2.2.2.2.2.1, (uA (2 + (6 : Int32).toNatClampNeg)).2.2.2.2.2.2.1, (uA (2 + (6 : Int32).toNatClampNeg)).2.2.2.2.2.2.2, 6, (uM2 - 1)))) else (xk (xin (uM1 - 1) 7) (some (0, (uM2 - 1), (uA (2 + (uM1 - 1).toNatClampNeg)).1, (uA (2 + (uM1 - 1).toNatClampNeg)).2.1, (uA (2 + (uM1 - 1).toNatClampNeg)).2.2.1, (uA (2 + (uM1 - 1).toNatClampNeg)).2.2.2.1, (uA (2 + (uM1 - 1).toNatClampNeg)).2.2.2.2.1, (uA (2 + (uM1 - 1).toNatClampNeg)).2.2.2.2.2.1, (uA (2 + (uM1 - 1).toNatClampNeg)).2.2.2.2.2.2.1, (uA (2 + (uM1 - 1).toNatClampNeg)).2.2.2.2.2.2.2, (uM1 - 1), (uM2 - 1))))) else (some (5, 0, uP, uC, uD, uJ, ur, ut, ud, ug, uM1, uM2))
set_option maxHeartbeats 4000000 in
set_option maxRecDepth 100000 in
theorem m_X7_undo {l : Launch} {κ : xKt} {wZ : sRef × sOut}  {uA : Nat → sAcc} {uP : sPar} {uC : sCla} {uD : sDeb} {uJ : sJou} {ur : xF32} {ut : xF32} {ud : Int32} {ug : Int32} {uT0 : Int32} {uT1 : xF32} {uT2 : Int32} {uT3 : Int32} {uT4 : Int32} {uT5 : xF32} {uT6 : xF32} {uT7 : xF32} {uT8 : xF32} {uG0 : Int32} {uG1 : xF32} {uG2 : xF32} {uM0 : Int32} {uM1 : Int32} {uM2 : Int32} {uM3 : Int32} {uM4 : Int32} {ec : Nat} {rr : Int32} {yP : sPar} {yC : sCla} {yD : sDeb} {yJ : sJou} {yr : xF32} {yt : xF32} {yd : Int32} {yg : Int32} {yM1 : Int32} {yM2 : Int32} (hf : f_X7_undo uA uP uC uD uJ ur ut ud ug uM1 uM2 = some (ec, rr, yP, yC, yD, yJ, yr, yt, yd, yg, yM1, yM2)) : xTi l κ yX7_undo cX7_undo 1 (some .int) (xR 2 1 6) [.ref (xAd κ 234)] (upA uA 0 (uP, uC, uD, uJ, ur, ut, ud, ug), (uT0, uT1, uT2, uT3, uT4, uT5, uT6, uT7, uT8), (uG0, uG1, uG2), (uM0, uM1, uM2, uM3, uM4), wZ) (upA uA 0 (yP, yC, yD, yJ, yr, yt, yd, yg), (uT0, uT1, uT2, uT3, uT4, uT5, uT6, uT7, uT8), (uG0, uG1, uG2), (uM0, yM1, yM2, uM3, uM4), wZ) ec rr := by
  unfold f_X7_undo at hf
  refine xTi_of pn_X7 (Nat.le_of_ble_eq_true rfl) ?_
  intro A p e s m args below meth c ls Q hlt hc hw hl K KX KO
  have hc : xC κ A p s m args meth c cX7_undo RX7 1 (some .int) := hc
  have hx := hc.1.1
  have hb := hc.1.2.1
  have hl : lv_has ls 1 [(0, .ref (xAd κ 234))] := hl
  refine lv_aload_n hx hb dX7_undo_0 rfl (lv_at hl 0 rfl) ?_
  refine x_get (v := .int uM2) hc hw co_234 fX7_45 rfl dX7_undo_1 ?_
  refine lv_if_gt (tgt := 15) hx hb dX7_undo_4 (by decide) (fun c1 => ?_) (fun c1 => ?_)
  · have hf := xif_t c1 hf
    refine lv_aload_n hx hb dX7_undo_15 rfl (lv_at hl 0 rfl) ?_
    refine lv_aload_n hx hb dX7_undo_16 rfl (lv_at hl 0 rfl) ?_
    refine x_get (v := .int uM1) hc hw co_234 fX7_41 rfl dX7_undo_17 ?_
    refine lv_if_le (tgt := 32) hx hb dX7_undo_20 (by decide) (fun c2 => ?_) (fun c2 => ?_)
    · have hf := xif_t c2 hf
      refine lv_bipush (v := 6) hx hb dX7_undo_32 (by decide) ?_
      refine x_put (σ' := (upA uA 0 (uP, uC, uD, uJ, ur, ut, ud, ug), (uT0, uT1, uT2, uT3, uT4, uT5, uT6, uT7, uT8), (uG0, uG1, uG2), (uM0, 6, uM2, uM3, uM4), wZ)) hc hw co_234 fX7_41 rfl rfl (Nat.le_of_ble_eq_true rfl) so_M_1 dX7_undo_34 (fun H locs hw => ?_)
      refine lv_aload_n hx hb dX7_undo_37 rfl (lv_at hl 0 rfl) ?_
      refine lv_dup hx hb dX7_undo_38 rfl ?_
      refine x_get (v := .int uM2) hc hw co_234 fX7_45 rfl dX7_undo_39 ?_
      refine lv_iconst (v := 1) hx hb dX7_undo_42 (by decide) ?_
      refine lv_isub hx hb dX7_undo_43 ?_
      refine x_put (σ' := (upA uA 0 (uP, uC, uD, uJ, ur, ut, ud, ug), (uT0, uT1, uT2, uT3, uT4, uT5, uT6, uT7, uT8), (uG0, uG1, uG2), (uM0, 6, (uM2 - 1), uM3, uM4), wZ)) hc hw co_234 fX7_45 rfl rfl (Nat.le_of_ble_eq_true rfl) so_M_2 dX7_undo_44 (fun H locs hw => ?_)
      refine lv_aload_n hx hb dX7_undo_47 rfl (lv_at hl 0 rfl) ?_
      refine x_get (v := .ref (xAd κ (26 * 0))) hc hw co_234 fX7_10 rfl dX7_undo_48 ?_
      refine lv_aload_n hx hb dX7_undo_51 rfl (lv_at hl 0 rfl) ?_
      refine x_get (v := .ref (xAd κ 235)) hc hw co_234 fX7_19 rfl dX7_undo_52 ?_
      refine lv_aload_n hx hb dX7_undo_55 rfl (lv_at hl 0 rfl) ?_
      refine x_get (v := .int 6) hc hw co_234 fX7_41 rfl dX7_undo_56 ?_
      obtain ⟨k3, hf⟩ := xk_of hf
      refine x_aald hc hw (n := 7) (f := fun i => some (xAd κ (26 * (2 + i)))) co_235 k3 dX7_undo_59 ?_
      have hh9 := xin_h9 k3
      have hh0 := xin_h0 k3
      refine x_callvV (As := [.ref (xAd κ (26 * (2 + (6 : Int32).toNatClampNeg)))]) (rest := []) hc hw hl.1 (m_X0_copyFrom z9 hh9 hh0.symm) kX7_314 (xc_accA (j := 0) z9 (by decide) rfl) rfl rfl ⟨rfl, rfl⟩ ⟨Nat.le_of_ble_eq_true rfl, Nat.le_of_ble_eq_true rfl⟩ ⟨Nat.zero_le _, Nat.zero_le _⟩ (Nat.le_of_ble_eq_true rfl) dX7_undo_60 (fun H locs hw => ?_)
      rw [upA_in (by first | exact hh0 | decide)] at hw
      have hw : xW κ A s (upA uA 0 ((uA (2 + (6 : Int32).toNatClampNeg)).1, (uA (2 + (6 : Int32).toNatClampNeg)).2.1, (uA (2 + (6 : Int32).toNatClampNeg)).2.2.1, (uA (2 + (6 : Int32).toNatClampNeg)).2.2.2.1, (uA (2 + (6 : Int32).toNatClampNeg)).2.2.2.2.1, (uA (2 + (6 : Int32).toNatClampNeg)).2.2.2.2.2.1, (uA (2 + (6 : Int32).toNatClampNeg)).2.2.2.2.2.2.1, (uA (2 + (6 : Int32).toNatClampNeg)).2.2.2.2.2.2.2), (uT0, uT1, uT2, uT3, uT4, uT5, uT6, uT7, uT8), (uG0, uG1, uG2), (uM0, 6, (uM2 - 1), uM3, uM4), wZ) H locs := hw
      refine lv_aload_n hx hb dX7_undo_63 rfl (lv_at hl 0 rfl) ?_
      refine x_get (v := .int (uM2 - 1)) hc hw co_234 fX7_45 rfl dX7_undo_64 ?_
      cases hf
      exact K _ _ _ _ _ _ (by decide) (by decide) dX7_undo_67 rfl rfl hw
    · have hf := xif_f c2 hf
      refine lv_aload_n hx hb dX7_undo_23 rfl (lv_at hl 0 rfl) ?_
      refine x_get (v := .int uM1) hc hw co_234 fX7_41 rfl dX7_undo_24 ?_
      refine lv_iconst (v := 1) hx hb dX7_undo_27 (by decide) ?_
      refine lv_isub hx hb dX7_undo_28 ?_
      refine lv_goto (tgt := 34) hx hb dX7_undo_29 (by decide) ?_
      refine x_put (σ' := (upA uA 0 (uP, uC, uD, uJ, ur, ut, ud, ug), (uT0, uT1, uT2, uT3, uT4, uT5, uT6, uT7, uT8), (uG0, uG1, uG2), (uM0, (uM1 - 1), uM2, uM3, uM4), wZ)) hc hw co_234 fX7_41 rfl rfl (Nat.le_of_ble_eq_true rfl) so_M_1 dX7_undo_34 (fun H locs hw => ?_)
      refine lv_aload_n hx hb dX7_undo_37 rfl (lv_at hl 0 rfl) ?_
      refine lv_dup hx hb dX7_undo_38 rfl ?_
      refine x_get (v := .int uM2) hc hw co_234 fX7_45 rfl dX7_undo_39 ?_
      refine lv_iconst (v := 1) hx hb dX7_undo_42 (by decide) ?_
      refine lv_isub hx hb dX7_undo_43 ?_
      refine x_put (σ' := (upA uA 0 (uP, uC, uD, uJ, ur, ut, ud, ug), (uT0, uT1, uT2, uT3, uT4, uT5, uT6, uT7, uT8), (uG0, uG1, uG2), (uM0, (uM1 - 1), (uM2 - 1), uM3, uM4), wZ)) hc hw co_234 fX7_45 rfl rfl (Nat.le_of_ble_eq_true rfl) so_M_2 dX7_undo_44 (fun H locs hw => ?_)
      refine lv_aload_n hx hb dX7_undo_47 rfl (lv_at hl 0 rfl) ?_
      refine x_get (v := .ref (xAd κ (26 * 0))) hc hw co_234 fX7_10 rfl dX7_undo_48 ?_
      refine lv_aload_n hx hb dX7_undo_51 rfl (lv_at hl 0 rfl) ?_
      refine x_get (v := .ref (xAd κ 235)) hc hw co_234 fX7_19 rfl dX7_undo_52 ?_
      refine lv_aload_n hx hb dX7_undo_55 rfl (lv_at hl 0 rfl) ?_
      refine x_get (v := .int (uM1 - 1)) hc hw co_234 fX7_41 rfl dX7_undo_56 ?_
      obtain ⟨k4, hf⟩ := xk_of hf
      refine x_aald hc hw (n := 7) (f := fun i => some (xAd κ (26 * (2 + i)))) co_235 k4 dX7_undo_59 ?_
      have hh9 := xin_h9 k4
      have hh0 := xin_h0 k4
      refine x_callvV (As := [.ref (xAd κ (26 * (2 + (uM1 - 1).toNatClampNeg)))]) (rest := []) hc hw hl.1 (m_X0_copyFrom z9 hh9 hh0.symm) kX7_314 (xc_accA (j := 0) z9 (by decide) rfl) rfl rfl ⟨rfl, rfl⟩ ⟨Nat.le_of_ble_eq_true rfl, Nat.le_of_ble_eq_true rfl⟩ ⟨Nat.zero_le _, Nat.zero_le _⟩ (Nat.le_of_ble_eq_true rfl) dX7_undo_60 (fun H locs hw => ?_)
      rw [upA_in (by first | exact hh0 | decide)] at hw
      have hw : xW κ A s (upA uA 0 ((uA (2 + (uM1 - 1).toNatClampNeg)).1, (uA (2 + (uM1 - 1).toNatClampNeg)).2.1, (uA (2 + (uM1 - 1).toNatClampNeg)).2.2.1, (uA (2 + (uM1 - 1).toNatClampNeg)).2.2.2.1, (uA (2 + (uM1 - 1).toNatClampNeg)).2.2.2.2.1, (uA (2 + (uM1 - 1).toNatClampNeg)).2.2.2.2.2.1, (uA (2 + (uM1 - 1).toNatClampNeg)).2.2.2.2.2.2.1, (uA (2 + (uM1 - 1).toNatClampNeg)).2.2.2.2.2.2.2), (uT0, uT1, uT2, uT3, uT4, uT5, uT6, uT7, uT8), (uG0, uG1, uG2), (uM0, (uM1 - 1), (uM2 - 1), uM3, uM4), wZ) H locs := hw
      refine lv_aload_n hx hb dX7_undo_63 rfl (lv_at hl 0 rfl) ?_
      refine x_get (v := .int (uM2 - 1)) hc hw co_234 fX7_45 rfl dX7_undo_64 ?_
      cases hf
      exact K _ _ _ _ _ _ (by decide) (by decide) dX7_undo_67 rfl rfl hw
  · have hf := xif_f c1 hf
    cases hf
    exact KX _ _ _ _ _ _ _ (by decide) tX7_148 dX7_undo_7 dX7_undo_10 dX7_undo_11 dX7_undo_14 hl.1 (Nat.le_of_ble_eq_true rfl) hw
def f_X7_save (uA : Nat → sAcc) (uP : sPar) (uC : sCla) (uD : sDeb) (uJ : sJou) (ur : xF32) (ut : xF32) (ud : Int32) (ug : Int32) (uM0 : Int32) : Option (Int32 × (Nat → sAcc) × Int32) :=
  some (uC.1, (upA uA 1 (uP, uC, uD, uJ, ur, ut, ud, ug)), 1)
set_option maxHeartbeats 4000000 in
set_option maxRecDepth 100000 in
theorem m_X7_save {l : Launch} {κ : xKt} {wZ : sRef × sOut}  {uA : Nat → sAcc} {uP : sPar} {uC : sCla} {uD : sDeb} {uJ : sJou} {ur : xF32} {ut : xF32} {ud : Int32} {ug : Int32} {uT0 : Int32} {uT1 : xF32} {uT2 : Int32} {uT3 : Int32} {uT4 : Int32} {uT5 : xF32} {uT6 : xF32} {uT7 : xF32} {uT8 : xF32} {uG0 : Int32} {uG1 : xF32} {uG2 : xF32} {uM0 : Int32} {uM1 : Int32} {uM2 : Int32} {uM3 : Int32} {uM4 : Int32} {rr : Int32} {yA : Nat → sAcc} {yM0 : Int32} (hf : f_X7_save uA uP uC uD uJ ur ut ud ug uM0 = some (rr, yA, yM0)) : xMi l κ yX7_save cX7_save 1 (some .int) (xR 2 0 0) [.ref (xAd κ 234)] (upA uA 0 (uP, uC, uD, uJ, ur, ut, ud, ug), (uT0, uT1, uT2, uT3, uT4, uT5, uT6, uT7, uT8), (uG0, uG1, uG2), (uM0, uM1, uM2, uM3, uM4), wZ) (upA yA 0 (uP, uC, uD, uJ, ur, ut, ud, ug), (uT0, uT1, uT2, uT3, uT4, uT5, uT6, uT7, uT8), (uG0, uG1, uG2), (yM0, uM1, uM2, uM3, uM4), wZ) rr := by
  unfold f_X7_save at hf
  refine xMi_of pn_X7 (Nat.le_of_ble_eq_true rfl) ⟨rfl, rfl⟩ ?_
  intro A p e s m args below meth c ls Q hc hw hl K
  have hc : xC κ A p s m args meth c cX7_save RX7 1 (some .int) := hc
  have hx := hc.1.1
  have hb := hc.1.2.1
  have hl : lv_has ls 1 [(0, .ref (xAd κ 234))] := hl
  refine lv_aload_n hx hb dX7_save_0 rfl (lv_at hl 0 rfl) ?_
  refine x_get (v := .ref (xAd κ (26 * 1))) hc hw co_234 fX7_16 rfl dX7_save_1 ?_
  refine lv_aload_n hx hb dX7_save_4 rfl (lv_at hl 0 rfl) ?_
  refine x_get (v := .ref (xAd κ (26 * 0))) hc hw co_234 fX7_10 rfl dX7_save_5 ?_
  refine x_callvV (As := [.ref (xAd κ (26 * 0))]) (rest := []) hc hw hl.1 (m_X0_copyFrom (by decide) z9 (by decide)) kX7_314 (xc_accA (j := 0) (by decide) (by decide) rfl) rfl rfl ⟨rfl, rfl⟩ ⟨Nat.le_of_ble_eq_true rfl, Nat.le_of_ble_eq_true rfl⟩ ⟨Nat.zero_le _, Nat.zero_le _⟩ (Nat.le_of_ble_eq_true rfl) dX7_save_8 (fun H locs hw => ?_)
  rw [upA_out (by first | exact hh0 | decide)] at hw
  have hw : xW κ A s (upA (upA uA 1 (uP, uC, uD, uJ, ur, ut, ud, ug)) 0 (uP, uC, uD, uJ, ur, ut, ud, ug), (uT0, uT1, uT2, uT3, uT4, uT5, uT6, uT7, uT8), (uG0, uG1, uG2), (uM0, uM1, uM2, uM3, uM4), wZ) H locs := hw
  refine lv_aload_n hx hb dX7_save_11 rfl (lv_at hl 0 rfl) ?_
  refine lv_iconst (v := 1) hx hb dX7_save_12 (by decide) ?_
  refine x_put (σ' := (upA (upA uA 1 (uP, uC, uD, uJ, ur, ut, ud, ug)) 0 (uP, uC, uD, uJ, ur, ut, ud, ug), (uT0, uT1, uT2, uT3, uT4, uT5, uT6, uT7, uT8), (uG0, uG1, uG2), (1, uM1, uM2, uM3, uM4), wZ)) hc hw co_234 fX7_37 rfl rfl (Nat.le_of_ble_eq_true rfl) so_M_0 dX7_save_13 (fun H locs hw => ?_)
  refine lv_aload_n hx hb dX7_save_16 rfl (lv_at hl 0 rfl) ?_
  refine x_get (v := .ref (xAd κ (26 * 0))) hc hw co_234 fX7_10 rfl dX7_save_17 ?_
  refine x_get (v := .ref (xAd κ (26 * 0 + 8))) hc hw (ca_0 z9) fX7_116 rfl dX7_save_20 ?_
  refine x_get (v := .int uC.1) hc hw (ca_8 z9) fX7_329 rfl dX7_save_23 ?_
  cases hf
  exact K _ _ _ _ dX7_save_26 rfl hw
def f_X7_restore (uA : Nat → sAcc) (uP : sPar) (uC : sCla) (uD : sDeb) (uJ : sJou) (ur : xF32) (ut : xF32) (ud : Int32) (ug : Int32) (uM0 : Int32) (uM2 : Int32) : Option (Nat × Int32 × sPar × sCla × sDeb × sJou × xF32 × xF32 × Int32 × Int32 × Int32) :=
  if uM0 = 0 then (some (3, 0, uP, uC, uD, uJ, ur, ut, ud, ug, uM2)) else (some (0, (uA 1).2.1.1, (uA 1).1, (uA 1).2.1, (uA 1).2.2.1, (uA 1).2.2.2.1, (uA 1).2.2.2.2.1, (uA 1).2.2.2.2.2.1, (uA 1).2.2.2.2.2.2.1, (uA 1).2.2.2.2.2.2.2, 0))
set_option maxHeartbeats 4000000 in
set_option maxRecDepth 100000 in
theorem m_X7_restore {l : Launch} {κ : xKt} {wZ : sRef × sOut}  {uA : Nat → sAcc} {uP : sPar} {uC : sCla} {uD : sDeb} {uJ : sJou} {ur : xF32} {ut : xF32} {ud : Int32} {ug : Int32} {uT0 : Int32} {uT1 : xF32} {uT2 : Int32} {uT3 : Int32} {uT4 : Int32} {uT5 : xF32} {uT6 : xF32} {uT7 : xF32} {uT8 : xF32} {uG0 : Int32} {uG1 : xF32} {uG2 : xF32} {uM0 : Int32} {uM1 : Int32} {uM2 : Int32} {uM3 : Int32} {uM4 : Int32} {ec : Nat} {rr : Int32} {yP : sPar} {yC : sCla} {yD : sDeb} {yJ : sJou} {yr : xF32} {yt : xF32} {yd : Int32} {yg : Int32} {yM2 : Int32} (hf : f_X7_restore uA uP uC uD uJ ur ut ud ug uM0 uM2 = some (ec, rr, yP, yC, yD, yJ, yr, yt, yd, yg, yM2)) : xTi l κ yX7_restore cX7_restore 1 (some .int) (xR 2 1 6) [.ref (xAd κ 234)] (upA uA 0 (uP, uC, uD, uJ, ur, ut, ud, ug), (uT0, uT1, uT2, uT3, uT4, uT5, uT6, uT7, uT8), (uG0, uG1, uG2), (uM0, uM1, uM2, uM3, uM4), wZ) (upA uA 0 (yP, yC, yD, yJ, yr, yt, yd, yg), (uT0, uT1, uT2, uT3, uT4, uT5, uT6, uT7, uT8), (uG0, uG1, uG2), (uM0, uM1, yM2, uM3, uM4), wZ) ec rr := by
  unfold f_X7_restore at hf
  refine xTi_of pn_X7 (Nat.le_of_ble_eq_true rfl) ?_
  intro A p e s m args below meth c ls Q hlt hc hw hl K KX KO
  have hc : xC κ A p s m args meth c cX7_restore RX7 1 (some .int) := hc
  have hx := hc.1.1
  have hb := hc.1.2.1
  have hl : lv_has ls 1 [(0, .ref (xAd κ 234))] := hl
  refine lv_aload_n hx hb dX7_restore_0 rfl (lv_at hl 0 rfl) ?_
  refine x_get (v := .int uM0) hc hw co_234 fX7_37 rfl dX7_restore_1 ?_
  refine lv_if_ne (tgt := 15) hx hb dX7_restore_4 (by decide) (fun c1 => ?_) (fun c1 => ?_)
  · have hf := xif_f c1 hf
    refine lv_aload_n hx hb dX7_restore_15 rfl (lv_at hl 0 rfl) ?_
    refine x_get (v := .ref (xAd κ (26 * 0))) hc hw co_234 fX7_10 rfl dX7_restore_16 ?_
    refine lv_aload_n hx hb dX7_restore_19 rfl (lv_at hl 0 rfl) ?_
    refine x_get (v := .ref (xAd κ (26 * 1))) hc hw co_234 fX7_16 rfl dX7_restore_20 ?_
    refine x_callvV (As := [.ref (xAd κ (26 * 1))]) (rest := []) hc hw hl.1 (m_X0_copyFrom z9 (by decide) (by decide)) kX7_314 (xc_accA (j := 0) z9 (by decide) rfl) rfl rfl ⟨rfl, rfl⟩ ⟨Nat.le_of_ble_eq_true rfl, Nat.le_of_ble_eq_true rfl⟩ ⟨Nat.zero_le _, Nat.zero_le _⟩ (Nat.le_of_ble_eq_true rfl) dX7_restore_23 (fun H locs hw => ?_)
    rw [upA_in (by first | exact hh0 | decide)] at hw
    have hw : xW κ A s (upA uA 0 ((uA 1).1, (uA 1).2.1, (uA 1).2.2.1, (uA 1).2.2.2.1, (uA 1).2.2.2.2.1, (uA 1).2.2.2.2.2.1, (uA 1).2.2.2.2.2.2.1, (uA 1).2.2.2.2.2.2.2), (uT0, uT1, uT2, uT3, uT4, uT5, uT6, uT7, uT8), (uG0, uG1, uG2), (uM0, uM1, uM2, uM3, uM4), wZ) H locs := hw
    refine lv_aload_n hx hb dX7_restore_26 rfl (lv_at hl 0 rfl) ?_
    refine lv_iconst (v := 0) hx hb dX7_restore_27 (by decide) ?_
    refine x_put (σ' := (upA uA 0 ((uA 1).1, (uA 1).2.1, (uA 1).2.2.1, (uA 1).2.2.2.1, (uA 1).2.2.2.2.1, (uA 1).2.2.2.2.2.1, (uA 1).2.2.2.2.2.2.1, (uA 1).2.2.2.2.2.2.2), (uT0, uT1, uT2, uT3, uT4, uT5, uT6, uT7, uT8), (uG0, uG1, uG2), (uM0, uM1, 0, uM3, uM4), wZ)) hc hw co_234 fX7_45 rfl rfl (Nat.le_of_ble_eq_true rfl) so_M_2 dX7_restore_28 (fun H locs hw => ?_)
    refine lv_aload_n hx hb dX7_restore_31 rfl (lv_at hl 0 rfl) ?_
    refine x_get (v := .ref (xAd κ (26 * 0))) hc hw co_234 fX7_10 rfl dX7_restore_32 ?_
    refine x_get (v := .ref (xAd κ (26 * 0 + 8))) hc hw (ca_0 z9) fX7_116 rfl dX7_restore_35 ?_
    refine x_get (v := .int (uA 1).2.1.1) hc hw (ca_8 z9) fX7_329 rfl dX7_restore_38 ?_
    cases hf
    exact K _ _ _ _ _ _ (by decide) (by decide) dX7_restore_41 rfl rfl hw
  · have hf := xif_t c1 hf
    cases hf
    exact KX _ _ _ _ _ _ _ (by decide) tX7_77 dX7_restore_7 dX7_restore_10 dX7_restore_11 dX7_restore_14 hl.1 (Nat.le_of_ble_eq_true rfl) hw
