def f_X0_reset (uP : sPar) (uC : sCla) (uD : sDeb) (uJ : sJou) (ur : xF32) (ut : xF32) (ud : Int32) (ug : Int32) : Option (sPar × sCla × sDeb × sJou × xF32 × xF32 × Int32 × Int32) :=
  some ((0, uP.2.1, uP.2.2.1, uP.2.2.2.1, uP.2.2.2.2.1, uP.2.2.2.2.2.1, uP.2.2.2.2.2.2), (0, uC.2.1, uC.2.2.1, uC.2.2.2.1, uC.2.2.2.2.1, uC.2.2.2.2.2.1, uC.2.2.2.2.2.2), (0, uD.2.1, uD.2.2.1, uD.2.2.2.1, uD.2.2.2.2.1, uD.2.2.2.2.2), (0, uJ.2.1, uJ.2.2), xRate0, xTier0, 0, 0)
set_option maxHeartbeats 4000000 in
set_option maxRecDepth 100000 in
theorem m_X0_reset {l : Launch} {κ : xKt} {wA : Nat → sAcc} {wa : Nat} {wY : sTxt × sRng × sMai × sRef × sOut} (ha : wa < 9)  {uP : sPar} {uC : sCla} {uD : sDeb} {uJ : sJou} {ur : xF32} {ut : xF32} {ud : Int32} {ug : Int32} {yP : sPar} {yC : sCla} {yD : sDeb} {yJ : sJou} {yr : xF32} {yt : xF32} {yd : Int32} {yg : Int32} (hf : f_X0_reset uP uC uD uJ ur ut ud ug = some (yP, yC, yD, yJ, yr, yt, yd, yg)) : xMv l κ yX0_reset cX0_reset 1 none (xR 0 0 0) [.ref (xAd κ (26 * wa))] (upA wA wa (uP, uC, uD, uJ, ur, ut, ud, ug), wY) (upA wA wa (yP, yC, yD, yJ, yr, yt, yd, yg), wY) := by
  unfold f_X0_reset at hf
  refine xMv_of pn_X0 (Nat.le_of_ble_eq_true rfl) ⟨rfl, rfl⟩ ?_
  intro A p e s m args below meth c ls Q hc hw hl K
  have hc : xC κ A p s m args meth c cX0_reset RX0 1 none := hc
  have hx := hc.1.1
  have hb := hc.1.2.1
  have hl : lv_has ls 1 [(0, .ref (xAd κ (26 * wa)))] := hl
  refine lv_aload_n hx hb dX0_reset_0 rfl (lv_at hl 0 rfl) ?_
  refine x_get (v := .ref (xAd κ (26 * wa + 1))) hc hw (ca_0 ha) fX0_12 rfl dX0_reset_1 ?_
  refine lv_iconst (v := 0) hx hb dX0_reset_4 (by decide) ?_
  refine x_put (σ' := (upA wA wa ((0, uP.2.1, uP.2.2.1, uP.2.2.2.1, uP.2.2.2.2.1, uP.2.2.2.2.2.1, uP.2.2.2.2.2.2), uC, uD, uJ, ur, ut, ud, ug), wY)) hc hw (ca_1 ha) fX0_64 rfl rfl (Nat.le_of_ble_eq_true rfl) (sa_0_0 ha) dX0_reset_5 (fun H locs hw => ?_)
  refine lv_aload_n hx hb dX0_reset_8 rfl (lv_at hl 0 rfl) ?_
  refine x_get (v := .ref (xAd κ (26 * wa + 8))) hc hw (ca_0 ha) fX0_21 rfl dX0_reset_9 ?_
  refine lv_iconst (v := 0) hx hb dX0_reset_12 (by decide) ?_
  refine x_put (σ' := (upA wA wa ((0, uP.2.1, uP.2.2.1, uP.2.2.2.1, uP.2.2.2.2.1, uP.2.2.2.2.2.1, uP.2.2.2.2.2.2), (0, uC.2.1, uC.2.2.1, uC.2.2.2.1, uC.2.2.2.2.1, uC.2.2.2.2.2.1, uC.2.2.2.2.2.2), uD, uJ, ur, ut, ud, ug), wY)) hc hw (ca_8 ha) fX0_67 rfl rfl (Nat.le_of_ble_eq_true rfl) (sa_1_0 ha) dX0_reset_13 (fun H locs hw => ?_)
  refine lv_aload_n hx hb dX0_reset_16 rfl (lv_at hl 0 rfl) ?_
  refine x_get (v := .ref (xAd κ (26 * wa + 15))) hc hw (ca_0 ha) fX0_28 rfl dX0_reset_17 ?_
  refine lv_iconst (v := 0) hx hb dX0_reset_20 (by decide) ?_
  refine x_put (σ' := (upA wA wa ((0, uP.2.1, uP.2.2.1, uP.2.2.2.1, uP.2.2.2.2.1, uP.2.2.2.2.2.1, uP.2.2.2.2.2.2), (0, uC.2.1, uC.2.2.1, uC.2.2.2.1, uC.2.2.2.2.1, uC.2.2.2.2.2.1, uC.2.2.2.2.2.2), (0, uD.2.1, uD.2.2.1, uD.2.2.2.1, uD.2.2.2.2.1, uD.2.2.2.2.2), uJ, ur, ut, ud, ug), wY)) hc hw (ca_15 ha) fX0_68 rfl rfl (Nat.le_of_ble_eq_true rfl) (sa_2_0 ha) dX0_reset_21 (fun H locs hw => ?_)
  refine lv_aload_n hx hb dX0_reset_24 rfl (lv_at hl 0 rfl) ?_
  refine x_get (v := .ref (xAd κ (26 * wa + 21))) hc hw (ca_0 ha) fX0_35 rfl dX0_reset_25 ?_
  refine lv_iconst (v := 0) hx hb dX0_reset_28 (by decide) ?_
  refine x_put (σ' := (upA wA wa ((0, uP.2.1, uP.2.2.1, uP.2.2.2.1, uP.2.2.2.2.1, uP.2.2.2.2.2.1, uP.2.2.2.2.2.2), (0, uC.2.1, uC.2.2.1, uC.2.2.2.1, uC.2.2.2.2.1, uC.2.2.2.2.2.1, uC.2.2.2.2.2.2), (0, uD.2.1, uD.2.2.1, uD.2.2.2.1, uD.2.2.2.2.1, uD.2.2.2.2.2), (0, uJ.2.1, uJ.2.2), ur, ut, ud, ug), wY)) hc hw (ca_21 ha) fX0_69 rfl rfl (Nat.le_of_ble_eq_true rfl) (sa_3_0 ha) dX0_reset_29 (fun H locs hw => ?_)
  refine x_getsR hc hw w_fieldLink_RX0_39_ArbitrationFees_Accounts_FIRST_RATES_I_ dX0_reset_32 ?_
  refine lv_iconst (v := 0) hx hb dX0_reset_35 (by decide) ?_
  refine lv_aload_n hx hb dX0_reset_36 rfl (lv_at hl 0 rfl) ?_
  refine x_get (v := .ref (xAd κ (26 * wa + 24))) hc hw (ca_0 ha) fX0_48 rfl dX0_reset_37 ?_
  refine lv_iconst (v := 0) hx hb dX0_reset_40 (by decide) ?_
  refine lv_iconst (v := 4) hx hb dX0_reset_41 (by decide) ?_
  refine x_copyS (f := xRate0) (σ' := (upA wA wa ((0, uP.2.1, uP.2.2.1, uP.2.2.2.1, uP.2.2.2.2.1, uP.2.2.2.2.2.1, uP.2.2.2.2.2.2), (0, uC.2.1, uC.2.2.1, uC.2.2.2.1, uC.2.2.2.2.1, uC.2.2.2.2.2.1, uC.2.2.2.2.2.2), (0, uD.2.1, uD.2.2.1, uD.2.2.2.1, uD.2.2.2.2.1, uD.2.2.2.2.2), (0, uJ.2.1, uJ.2.2), xRate0, ut, ud, ug), wY)) hc hw hl.1 ac_X0_70 (x_r0 hc) (ca_24 ha) (sa_4_0 ha) ⟨Nat.le_of_ble_eq_true rfl, Nat.le_of_ble_eq_true rfl⟩ dX0_reset_42 (fun H locs hw => ?_)
  refine x_getsT hc hw w_fieldLink_RX0_51_ArbitrationFees_Accounts_FIRST_TIERS_I_ dX0_reset_45 ?_
  refine lv_iconst (v := 0) hx hb dX0_reset_48 (by decide) ?_
  refine lv_aload_n hx hb dX0_reset_49 rfl (lv_at hl 0 rfl) ?_
  refine x_get (v := .ref (xAd κ (26 * wa + 25))) hc hw (ca_0 ha) fX0_54 rfl dX0_reset_50 ?_
  refine lv_iconst (v := 0) hx hb dX0_reset_53 (by decide) ?_
  refine lv_iconst (v := 4) hx hb dX0_reset_54 (by decide) ?_
  refine x_copyS (f := xTier0) (σ' := (upA wA wa ((0, uP.2.1, uP.2.2.1, uP.2.2.2.1, uP.2.2.2.2.1, uP.2.2.2.2.2.1, uP.2.2.2.2.2.2), (0, uC.2.1, uC.2.2.1, uC.2.2.2.1, uC.2.2.2.2.1, uC.2.2.2.2.2.1, uC.2.2.2.2.2.2), (0, uD.2.1, uD.2.2.1, uD.2.2.2.1, uD.2.2.2.2.1, uD.2.2.2.2.2), (0, uJ.2.1, uJ.2.2), xRate0, xTier0, ud, ug), wY)) hc hw hl.1 ac_X0_70 (x_t0 hc) (ca_25 ha) (sa_5_0 ha) ⟨Nat.le_of_ble_eq_true rfl, Nat.le_of_ble_eq_true rfl⟩ dX0_reset_55 (fun H locs hw => ?_)
  refine lv_aload_n hx hb dX0_reset_58 rfl (lv_at hl 0 rfl) ?_
  refine lv_iconst (v := 0) hx hb dX0_reset_59 (by decide) ?_
  refine x_put (σ' := (upA wA wa ((0, uP.2.1, uP.2.2.1, uP.2.2.2.1, uP.2.2.2.2.1, uP.2.2.2.2.2.1, uP.2.2.2.2.2.2), (0, uC.2.1, uC.2.2.1, uC.2.2.2.1, uC.2.2.2.2.1, uC.2.2.2.2.2.1, uC.2.2.2.2.2.2), (0, uD.2.1, uD.2.2.1, uD.2.2.2.1, uD.2.2.2.2.1, uD.2.2.2.2.2), (0, uJ.2.1, uJ.2.2), xRate0, xTier0, 0, ug), wY)) hc hw (ca_0 ha) fX0_57 rfl rfl (Nat.le_of_ble_eq_true rfl) (sa_6_0 ha) dX0_reset_60 (fun H locs hw => ?_)
  refine lv_aload_n hx hb dX0_reset_63 rfl (lv_at hl 0 rfl) ?_
  refine lv_iconst (v := 0) hx hb dX0_reset_64 (by decide) ?_
  refine x_put (σ' := (upA wA wa ((0, uP.2.1, uP.2.2.1, uP.2.2.2.1, uP.2.2.2.2.1, uP.2.2.2.2.2.1, uP.2.2.2.2.2.2), (0, uC.2.1, uC.2.2.1, uC.2.2.2.1, uC.2.2.2.2.1, uC.2.2.2.2.2.1, uC.2.2.2.2.2.2), (0, uD.2.1, uD.2.2.1, uD.2.2.2.1, uD.2.2.2.2.1, uD.2.2.2.2.2), (0, uJ.2.1, uJ.2.2), xRate0, xTier0, 0, 0), wY)) hc hw (ca_0 ha) fX0_61 rfl rfl (Nat.le_of_ble_eq_true rfl) (sa_7_0 ha) dX0_reset_65 (fun H locs hw => ?_)
  cases hf
  exact K _ _ _ _ dX0_reset_68 hw
def f_X0_faultOfClaim (x1 : Int32) (x2 : Int32) (x3 : Int32) (uP : sPar) (uC : sCla) (ug : Int32) : Option Int32 :=
  xb1 (f_X4_hasBoth x1 x2 uP) fun v1 => (if v1 = 0 then (some 7) else (xk (xin x1 6) (xk (xin x2 6) (if (uP.2.1 x1.toNatClampNeg) = (uP.2.1 x2.toNatClampNeg) then (some 8) else (xb1 (f_X7_isAmount x3) fun v7 => (if v7 = 0 then (some 8) else (if 12 ≤ uC.1 then (some 9) else (if ug < 3 then (some 0) else (some 9)))))))))
set_option maxHeartbeats 4000000 in
set_option maxRecDepth 100000 in
theorem m_X0_faultOfClaim {l : Launch} {κ : xKt} {wA : Nat → sAcc} {wa : Nat} {wY : sTxt × sRng × sMai × sRef × sOut} (ha : wa < 9)  {x1 : Int32} {x2 : Int32} {x3 : Int32} {uP : sPar} {uC : sCla} {uD : sDeb} {uJ : sJou} {ur : xF32} {ut : xF32} {ud : Int32} {ug : Int32} {rr : Int32} (hf : f_X0_faultOfClaim x1 x2 x3 uP uC ug = some rr) : xMi l κ yX0_faultOfClaim cX0_faultOfClaim 4 (some .int) (xR 2 0 0) [.ref (xAd κ (26 * wa)), .int x1, .int x2, .int x3] (upA wA wa (uP, uC, uD, uJ, ur, ut, ud, ug), wY) (upA wA wa (uP, uC, uD, uJ, ur, ut, ud, ug), wY) rr := by
  unfold f_X0_faultOfClaim at hf
  refine xMi_of pn_X0 (Nat.le_of_ble_eq_true rfl) ⟨rfl, rfl⟩ ?_
  intro A p e s m args below meth c ls Q hc hw hl K
  have hc : xC κ A p s m args meth c cX0_faultOfClaim RX0 4 (some .int) := hc
  have hx := hc.1.1
  have hb := hc.1.2.1
  have hl : lv_has ls 4 [(0, .ref (xAd κ (26 * wa))), (1, .int x1), (2, .int x2), (3, .int x3)] := hl
  refine lv_aload_n hx hb dX0_faultOfClaim_0 rfl (lv_at hl 0 rfl) ?_
  refine x_get (v := .ref (xAd κ (26 * wa + 1))) hc hw (ca_0 ha) fX0_12 rfl dX0_faultOfClaim_1 ?_
  refine lv_iload_n hx hb dX0_faultOfClaim_4 rfl (lv_at hl 1 rfl) ?_
  refine lv_iload_n hx hb dX0_faultOfClaim_5 rfl (lv_at hl 2 rfl) ?_
  obtain ⟨v1, h2, hf⟩ := xb1_of hf
  refine x_calliV (As := [.int x1, .int x2]) (rest := []) (σ' := (upA wA wa (uP, uC, uD, uJ, ur, ut, ud, ug), wY)) hc hw hl.1 (m_X4_hasBoth ha h2) kX0_89 (ca_1 ha) rfl rfl ⟨rfl, rfl⟩ ⟨Nat.le_of_ble_eq_true rfl, Nat.le_of_ble_eq_true rfl⟩ ⟨Nat.zero_le _, Nat.zero_le _⟩ (Nat.le_of_ble_eq_true rfl) dX0_faultOfClaim_6 (fun H locs hw => ?_)
  refine lv_if_ne (tgt := 15) hx hb dX0_faultOfClaim_9 (by decide) (fun c3 => ?_) (fun c3 => ?_)
  · have hf := xif_f c3 hf
    refine lv_aload_n hx hb dX0_faultOfClaim_15 rfl (lv_at hl 0 rfl) ?_
    refine x_get (v := .ref (xAd κ (26 * wa + 1))) hc hw (ca_0 ha) fX0_12 rfl dX0_faultOfClaim_16 ?_
    refine x_get (v := .ref (xAd κ (26 * wa + 2))) hc hw (ca_1 ha) fX0_93 rfl dX0_faultOfClaim_19 ?_
    refine lv_iload_n hx hb dX0_faultOfClaim_22 rfl (lv_at hl 1 rfl) ?_
    obtain ⟨k4, hf⟩ := xk_of hf
    refine x_iald (n := 6) (f := uP.2.1) hc hw (ca_2 ha) k4 dX0_faultOfClaim_23 ?_
    refine lv_aload_n hx hb dX0_faultOfClaim_24 rfl (lv_at hl 0 rfl) ?_
    refine x_get (v := .ref (xAd κ (26 * wa + 1))) hc hw (ca_0 ha) fX0_12 rfl dX0_faultOfClaim_25 ?_
    refine x_get (v := .ref (xAd κ (26 * wa + 2))) hc hw (ca_1 ha) fX0_93 rfl dX0_faultOfClaim_28 ?_
    refine lv_iload_n hx hb dX0_faultOfClaim_31 rfl (lv_at hl 2 rfl) ?_
    obtain ⟨k5, hf⟩ := xk_of hf
    refine x_iald (n := 6) (f := uP.2.1) hc hw (ca_2 ha) k5 dX0_faultOfClaim_32 ?_
    refine lv_icmp_eq (tgt := 43) hx hb dX0_faultOfClaim_33 (by decide) (fun c6 => ?_) (fun c6 => ?_)
    · have hf := xif_t c6 hf
      refine lv_bipush (v := 8) hx hb dX0_faultOfClaim_43 (by decide) ?_
      cases hf
      exact K _ _ _ _ dX0_faultOfClaim_45 rfl hw
    · have hf := xif_f c6 hf
      refine lv_iload_n hx hb dX0_faultOfClaim_36 rfl (lv_at hl 3 rfl) ?_
      obtain ⟨v7, h8, hf⟩ := xb1_of hf
      refine x_calliN (As := [.int x3]) (rest := []) (σ' := (upA wA wa (uP, uC, uD, uJ, ur, ut, ud, ug), wY)) hc hw hl.1 (m_X7_isAmount h8) kX0_96 rfl rfl ⟨rfl, rfl⟩ ⟨Nat.le_of_ble_eq_true rfl, Nat.le_of_ble_eq_true rfl⟩ ⟨Nat.zero_le _, Nat.zero_le _⟩ (Nat.le_of_ble_eq_true rfl) dX0_faultOfClaim_37 (fun H locs hw => ?_)
      refine lv_if_ne (tgt := 46) hx hb dX0_faultOfClaim_40 (by decide) (fun c9 => ?_) (fun c9 => ?_)
      · have hf := xif_f c9 hf
        refine lv_aload_n hx hb dX0_faultOfClaim_46 rfl (lv_at hl 0 rfl) ?_
        refine x_get (v := .ref (xAd κ (26 * wa + 8))) hc hw (ca_0 ha) fX0_21 rfl dX0_faultOfClaim_47 ?_
        refine x_get (v := .int uC.1) hc hw (ca_8 ha) fX0_67 rfl dX0_faultOfClaim_50 ?_
        refine lv_bipush (v := 12) hx hb dX0_faultOfClaim_53 (by decide) ?_
        refine lv_icmp_ge (tgt := 66) hx hb dX0_faultOfClaim_55 (by decide) (fun c10 => ?_) (fun c10 => ?_)
        · have hf := xif_t c10 hf
          refine lv_bipush (v := 9) hx hb dX0_faultOfClaim_66 (by decide) ?_
          refine lv_goto (tgt := 72) hx hb dX0_faultOfClaim_68 (by decide) ?_
          cases hf
          exact K _ _ _ _ dX0_faultOfClaim_72 rfl hw
        · have hf := xif_f c10 hf
          refine lv_aload_n hx hb dX0_faultOfClaim_58 rfl (lv_at hl 0 rfl) ?_
          refine x_get (v := .int ug) hc hw (ca_0 ha) fX0_61 rfl dX0_faultOfClaim_59 ?_
          refine lv_iconst (v := 3) hx hb dX0_faultOfClaim_62 (by decide) ?_
          refine lv_icmp_lt (tgt := 71) hx hb dX0_faultOfClaim_63 (by decide) (fun c11 => ?_) (fun c11 => ?_)
          · have hf := xif_t c11 hf
            refine lv_iconst (v := 0) hx hb dX0_faultOfClaim_71 (by decide) ?_
            cases hf
            exact K _ _ _ _ dX0_faultOfClaim_72 rfl hw
          · have hf := xif_f c11 hf
            refine lv_bipush (v := 9) hx hb dX0_faultOfClaim_66 (by decide) ?_
            refine lv_goto (tgt := 72) hx hb dX0_faultOfClaim_68 (by decide) ?_
            cases hf
            exact K _ _ _ _ dX0_faultOfClaim_72 rfl hw
      · have hf := xif_t c9 hf
        refine lv_bipush (v := 8) hx hb dX0_faultOfClaim_43 (by decide) ?_
        cases hf
        exact K _ _ _ _ dX0_faultOfClaim_45 rfl hw
  · have hf := xif_t c3 hf
    refine lv_bipush (v := 7) hx hb dX0_faultOfClaim_12 (by decide) ?_
    cases hf
    exact K _ _ _ _ dX0_faultOfClaim_14 rfl hw
def f_X0_faultOfPart (x1 : Int32) (x2 : Int32) (x3 : Int32) (uC : sCla) : Option Int32 :=
  xb1 (f_X1_has x1 uC) fun v1 => (if v1 = 0 then (some 7) else (if 1 ≤ x2 then (if x3 = 0 then (xb1 (f_X1_leftOf x1 uC) fun v6 => (if x2 ≤ v6 then (some 0) else (some 3))) else (some x3)) else (some 8)))
set_option maxHeartbeats 4000000 in
set_option maxRecDepth 100000 in
theorem m_X0_faultOfPart {l : Launch} {κ : xKt} {wA : Nat → sAcc} {wa : Nat} {wY : sTxt × sRng × sMai × sRef × sOut} (ha : wa < 9)  {x1 : Int32} {x2 : Int32} {x3 : Int32} {uP : sPar} {uC : sCla} {uD : sDeb} {uJ : sJou} {ur : xF32} {ut : xF32} {ud : Int32} {ug : Int32} {rr : Int32} (hf : f_X0_faultOfPart x1 x2 x3 uC = some rr) : xMi l κ yX0_faultOfPart cX0_faultOfPart 4 (some .int) (xR 1 0 0) [.ref (xAd κ (26 * wa)), .int x1, .int x2, .int x3] (upA wA wa (uP, uC, uD, uJ, ur, ut, ud, ug), wY) (upA wA wa (uP, uC, uD, uJ, ur, ut, ud, ug), wY) rr := by
  unfold f_X0_faultOfPart at hf
  refine xMi_of pn_X0 (Nat.le_of_ble_eq_true rfl) ⟨rfl, rfl⟩ ?_
  intro A p e s m args below meth c ls Q hc hw hl K
  have hc : xC κ A p s m args meth c cX0_faultOfPart RX0 4 (some .int) := hc
  have hx := hc.1.1
  have hb := hc.1.2.1
  have hl : lv_has ls 4 [(0, .ref (xAd κ (26 * wa))), (1, .int x1), (2, .int x2), (3, .int x3)] := hl
  refine lv_aload_n hx hb dX0_faultOfPart_0 rfl (lv_at hl 0 rfl) ?_
  refine x_get (v := .ref (xAd κ (26 * wa + 8))) hc hw (ca_0 ha) fX0_21 rfl dX0_faultOfPart_1 ?_
  refine lv_iload_n hx hb dX0_faultOfPart_4 rfl (lv_at hl 1 rfl) ?_
  obtain ⟨v1, h2, hf⟩ := xb1_of hf
  refine x_calliV (As := [.int x1]) (rest := []) (σ' := (upA wA wa (uP, uC, uD, uJ, ur, ut, ud, ug), wY)) hc hw hl.1 (m_X1_has ha h2) kX0_104 (ca_8 ha) rfl rfl ⟨rfl, rfl⟩ ⟨Nat.le_of_ble_eq_true rfl, Nat.le_of_ble_eq_true rfl⟩ ⟨Nat.zero_le _, Nat.zero_le _⟩ (Nat.le_of_ble_eq_true rfl) dX0_faultOfPart_5 (fun H locs hw => ?_)
  refine lv_if_ne (tgt := 14) hx hb dX0_faultOfPart_8 (by decide) (fun c3 => ?_) (fun c3 => ?_)
  · have hf := xif_f c3 hf
    refine lv_iload_n hx hb dX0_faultOfPart_14 rfl (lv_at hl 2 rfl) ?_
    refine lv_iconst (v := 1) hx hb dX0_faultOfPart_15 (by decide) ?_
    refine lv_icmp_ge (tgt := 22) hx hb dX0_faultOfPart_16 (by decide) (fun c4 => ?_) (fun c4 => ?_)
    · have hf := xif_t c4 hf
      refine lv_iload_n hx hb dX0_faultOfPart_22 rfl (lv_at hl 3 rfl) ?_
      refine lv_if_eq (tgt := 28) hx hb dX0_faultOfPart_23 (by decide) (fun c5 => ?_) (fun c5 => ?_)
      · have hf := xif_t c5 hf
        refine lv_iload_n hx hb dX0_faultOfPart_28 rfl (lv_at hl 2 rfl) ?_
        refine lv_aload_n hx hb dX0_faultOfPart_29 rfl (lv_at hl 0 rfl) ?_
        refine x_get (v := .ref (xAd κ (26 * wa + 8))) hc hw (ca_0 ha) fX0_21 rfl dX0_faultOfPart_30 ?_
        refine lv_iload_n hx hb dX0_faultOfPart_33 rfl (lv_at hl 1 rfl) ?_
        obtain ⟨v6, h7, hf⟩ := xb1_of hf
        refine x_calliV (As := [.int x1]) (rest := [.int x2]) (σ' := (upA wA wa (uP, uC, uD, uJ, ur, ut, ud, ug), wY)) hc hw hl.1 (m_X1_leftOf ha h7) kX0_107 (ca_8 ha) rfl rfl ⟨rfl, rfl⟩ ⟨Nat.le_of_ble_eq_true rfl, Nat.le_of_ble_eq_true rfl⟩ ⟨Nat.zero_le _, Nat.zero_le _⟩ (Nat.le_of_ble_eq_true rfl) dX0_faultOfPart_34 (fun H locs hw => ?_)
        refine lv_icmp_le (tgt := 44) hx hb dX0_faultOfPart_37 (by decide) (fun c8 => ?_) (fun c8 => ?_)
        · have hf := xif_t c8 hf
          refine lv_iconst (v := 0) hx hb dX0_faultOfPart_44 (by decide) ?_
          cases hf
          exact K _ _ _ _ dX0_faultOfPart_45 rfl hw
        · have hf := xif_f c8 hf
          refine lv_iconst (v := 3) hx hb dX0_faultOfPart_40 (by decide) ?_
          refine lv_goto (tgt := 45) hx hb dX0_faultOfPart_41 (by decide) ?_
          cases hf
          exact K _ _ _ _ dX0_faultOfPart_45 rfl hw
      · have hf := xif_f c5 hf
        refine lv_iload_n hx hb dX0_faultOfPart_26 rfl (lv_at hl 3 rfl) ?_
        cases hf
        exact K _ _ _ _ dX0_faultOfPart_27 rfl hw
    · have hf := xif_f c4 hf
      refine lv_bipush (v := 8) hx hb dX0_faultOfPart_19 (by decide) ?_
      cases hf
      exact K _ _ _ _ dX0_faultOfPart_21 rfl hw
  · have hf := xif_t c3 hf
    refine lv_bipush (v := 7) hx hb dX0_faultOfPart_11 (by decide) ?_
    cases hf
    exact K _ _ _ _ dX0_faultOfPart_13 rfl hw
def f_X0_faultOfRuling (x1 : Int32) (x2 : Int32) (uC : sCla) (ug : Int32) : Option Int32 :=
  if ug = 0 then (xb1 (f_X0_faultOfPart x1 x2 1 uC) fun v4 => (some v4)) else (xb1 (f_X0_faultOfPart x1 x2 0 uC) fun v2 => (some v2))
set_option maxHeartbeats 4000000 in
set_option maxRecDepth 100000 in
theorem m_X0_faultOfRuling {l : Launch} {κ : xKt} {wA : Nat → sAcc} {wa : Nat} {wY : sTxt × sRng × sMai × sRef × sOut} (ha : wa < 9)  {x1 : Int32} {x2 : Int32} {uP : sPar} {uC : sCla} {uD : sDeb} {uJ : sJou} {ur : xF32} {ut : xF32} {ud : Int32} {ug : Int32} {rr : Int32} (hf : f_X0_faultOfRuling x1 x2 uC ug = some rr) : xMi l κ yX0_faultOfRuling cX0_faultOfRuling 3 (some .int) (xR 2 0 0) [.ref (xAd κ (26 * wa)), .int x1, .int x2] (upA wA wa (uP, uC, uD, uJ, ur, ut, ud, ug), wY) (upA wA wa (uP, uC, uD, uJ, ur, ut, ud, ug), wY) rr := by
  unfold f_X0_faultOfRuling at hf
  refine xMi_of pn_X0 (Nat.le_of_ble_eq_true rfl) ⟨rfl, rfl⟩ ?_
  intro A p e s m args below meth c ls Q hc hw hl K
  have hc : xC κ A p s m args meth c cX0_faultOfRuling RX0 3 (some .int) := hc
  have hx := hc.1.1
  have hb := hc.1.2.1
  have hl : lv_has ls 3 [(0, .ref (xAd κ (26 * wa))), (1, .int x1), (2, .int x2)] := hl
  refine lv_aload_n hx hb dX0_faultOfRuling_0 rfl (lv_at hl 0 rfl) ?_
  refine lv_iload_n hx hb dX0_faultOfRuling_1 rfl (lv_at hl 1 rfl) ?_
  refine lv_iload_n hx hb dX0_faultOfRuling_2 rfl (lv_at hl 2 rfl) ?_
  refine lv_aload_n hx hb dX0_faultOfRuling_3 rfl (lv_at hl 0 rfl) ?_
  refine x_get (v := .int ug) hc hw (ca_0 ha) fX0_61 rfl dX0_faultOfRuling_4 ?_
  refine lv_if_ne (tgt := 14) hx hb dX0_faultOfRuling_7 (by decide) (fun c1 => ?_) (fun c1 => ?_)
  · have hf := xif_f c1 hf
    refine lv_iconst (v := 0) hx hb dX0_faultOfRuling_14 (by decide) ?_
    obtain ⟨v2, h3, hf⟩ := xb1_of hf
    refine x_calliV (As := [.int x1, .int x2, .int 0]) (rest := []) (σ' := (upA wA wa (uP, uC, uD, uJ, ur, ut, ud, ug), wY)) hc hw hl.1 (m_X0_faultOfPart ha h3) kX0_100 (ca_0 ha) rfl rfl ⟨rfl, rfl⟩ ⟨Nat.le_of_ble_eq_true rfl, Nat.le_of_ble_eq_true rfl⟩ ⟨Nat.zero_le _, Nat.zero_le _⟩ (Nat.le_of_ble_eq_true rfl) dX0_faultOfRuling_15 (fun H locs hw => ?_)
    cases hf
    exact K _ _ _ _ dX0_faultOfRuling_18 rfl hw
  · have hf := xif_t c1 hf
    refine lv_iconst (v := 1) hx hb dX0_faultOfRuling_10 (by decide) ?_
    refine lv_goto (tgt := 15) hx hb dX0_faultOfRuling_11 (by decide) ?_
    obtain ⟨v4, h5, hf⟩ := xb1_of hf
    refine x_calliV (As := [.int x1, .int x2, .int 1]) (rest := []) (σ' := (upA wA wa (uP, uC, uD, uJ, ur, ut, ud, ug), wY)) hc hw hl.1 (m_X0_faultOfPart ha h5) kX0_100 (ca_0 ha) rfl rfl ⟨rfl, rfl⟩ ⟨Nat.le_of_ble_eq_true rfl, Nat.le_of_ble_eq_true rfl⟩ ⟨Nat.zero_le _, Nat.zero_le _⟩ (Nat.le_of_ble_eq_true rfl) dX0_faultOfRuling_15 (fun H locs hw => ?_)
    cases hf
    exact K _ _ _ _ dX0_faultOfRuling_18 rfl hw
def f_X0_faultOfWithdrawal (x1 : Int32) (x2 : Int32) (uC : sCla) (ug : Int32) : Option Int32 :=
  if ug ≤ 1 then (xb1 (f_X0_faultOfPart x1 x2 0 uC) fun v2 => (some v2)) else (xb1 (f_X0_faultOfPart x1 x2 2 uC) fun v4 => (some v4))
set_option maxHeartbeats 4000000 in
set_option maxRecDepth 100000 in
theorem m_X0_faultOfWithdrawal {l : Launch} {κ : xKt} {wA : Nat → sAcc} {wa : Nat} {wY : sTxt × sRng × sMai × sRef × sOut} (ha : wa < 9)  {x1 : Int32} {x2 : Int32} {uP : sPar} {uC : sCla} {uD : sDeb} {uJ : sJou} {ur : xF32} {ut : xF32} {ud : Int32} {ug : Int32} {rr : Int32} (hf : f_X0_faultOfWithdrawal x1 x2 uC ug = some rr) : xMi l κ yX0_faultOfWithdrawal cX0_faultOfWithdrawal 3 (some .int) (xR 2 0 0) [.ref (xAd κ (26 * wa)), .int x1, .int x2] (upA wA wa (uP, uC, uD, uJ, ur, ut, ud, ug), wY) (upA wA wa (uP, uC, uD, uJ, ur, ut, ud, ug), wY) rr := by
  unfold f_X0_faultOfWithdrawal at hf
  refine xMi_of pn_X0 (Nat.le_of_ble_eq_true rfl) ⟨rfl, rfl⟩ ?_
  intro A p e s m args below meth c ls Q hc hw hl K
  have hc : xC κ A p s m args meth c cX0_faultOfWithdrawal RX0 3 (some .int) := hc
  have hx := hc.1.1
  have hb := hc.1.2.1
  have hl : lv_has ls 3 [(0, .ref (xAd κ (26 * wa))), (1, .int x1), (2, .int x2)] := hl
  refine lv_aload_n hx hb dX0_faultOfWithdrawal_0 rfl (lv_at hl 0 rfl) ?_
  refine lv_iload_n hx hb dX0_faultOfWithdrawal_1 rfl (lv_at hl 1 rfl) ?_
  refine lv_iload_n hx hb dX0_faultOfWithdrawal_2 rfl (lv_at hl 2 rfl) ?_
  refine lv_aload_n hx hb dX0_faultOfWithdrawal_3 rfl (lv_at hl 0 rfl) ?_
  refine x_get (v := .int ug) hc hw (ca_0 ha) fX0_61 rfl dX0_faultOfWithdrawal_4 ?_
  refine lv_iconst (v := 1) hx hb dX0_faultOfWithdrawal_7 (by decide) ?_
  refine lv_icmp_le (tgt := 15) hx hb dX0_faultOfWithdrawal_8 (by decide) (fun c1 => ?_) (fun c1 => ?_)
  · have hf := xif_t c1 hf
    refine lv_iconst (v := 0) hx hb dX0_faultOfWithdrawal_15 (by decide) ?_
    obtain ⟨v2, h3, hf⟩ := xb1_of hf
    refine x_calliV (As := [.int x1, .int x2, .int 0]) (rest := []) (σ' := (upA wA wa (uP, uC, uD, uJ, ur, ut, ud, ug), wY)) hc hw hl.1 (m_X0_faultOfPart ha h3) kX0_100 (ca_0 ha) rfl rfl ⟨rfl, rfl⟩ ⟨Nat.le_of_ble_eq_true rfl, Nat.le_of_ble_eq_true rfl⟩ ⟨Nat.zero_le _, Nat.zero_le _⟩ (Nat.le_of_ble_eq_true rfl) dX0_faultOfWithdrawal_16 (fun H locs hw => ?_)
    cases hf
    exact K _ _ _ _ dX0_faultOfWithdrawal_19 rfl hw
  · have hf := xif_f c1 hf
    refine lv_iconst (v := 2) hx hb dX0_faultOfWithdrawal_11 (by decide) ?_
    refine lv_goto (tgt := 16) hx hb dX0_faultOfWithdrawal_12 (by decide) ?_
    obtain ⟨v4, h5, hf⟩ := xb1_of hf
    refine x_calliV (As := [.int x1, .int x2, .int 2]) (rest := []) (σ' := (upA wA wa (uP, uC, uD, uJ, ur, ut, ud, ug), wY)) hc hw hl.1 (m_X0_faultOfPart ha h5) kX0_100 (ca_0 ha) rfl rfl ⟨rfl, rfl⟩ ⟨Nat.le_of_ble_eq_true rfl, Nat.le_of_ble_eq_true rfl⟩ ⟨Nat.zero_le _, Nat.zero_le _⟩ (Nat.le_of_ble_eq_true rfl) dX0_faultOfWithdrawal_16 (fun H locs hw => ?_)
    cases hf
    exact K _ _ _ _ dX0_faultOfWithdrawal_19 rfl hw
def f_X0_faultOfPayment (x1 : Int32) (x2 : Int32) (uP : sPar) : Option Int32 :=
  xb1 (f_X4_has x1 uP) fun v1 => (if v1 = 0 then (some 7) else (xb1 (f_X7_isAmount x2) fun v4 => (if v4 = 0 then (some 8) else (some 0))))
set_option maxHeartbeats 4000000 in
set_option maxRecDepth 100000 in
theorem m_X0_faultOfPayment {l : Launch} {κ : xKt} {wA : Nat → sAcc} {wa : Nat} {wY : sTxt × sRng × sMai × sRef × sOut} (ha : wa < 9)  {x1 : Int32} {x2 : Int32} {uP : sPar} {uC : sCla} {uD : sDeb} {uJ : sJou} {ur : xF32} {ut : xF32} {ud : Int32} {ug : Int32} {rr : Int32} (hf : f_X0_faultOfPayment x1 x2 uP = some rr) : xMi l κ yX0_faultOfPayment cX0_faultOfPayment 3 (some .int) (xR 2 0 0) [.ref (xAd κ (26 * wa)), .int x1, .int x2] (upA wA wa (uP, uC, uD, uJ, ur, ut, ud, ug), wY) (upA wA wa (uP, uC, uD, uJ, ur, ut, ud, ug), wY) rr := by
  unfold f_X0_faultOfPayment at hf
  refine xMi_of pn_X0 (Nat.le_of_ble_eq_true rfl) ⟨rfl, rfl⟩ ?_
  intro A p e s m args below meth c ls Q hc hw hl K
  have hc : xC κ A p s m args meth c cX0_faultOfPayment RX0 3 (some .int) := hc
  have hx := hc.1.1
  have hb := hc.1.2.1
  have hl : lv_has ls 3 [(0, .ref (xAd κ (26 * wa))), (1, .int x1), (2, .int x2)] := hl
  refine lv_aload_n hx hb dX0_faultOfPayment_0 rfl (lv_at hl 0 rfl) ?_
  refine x_get (v := .ref (xAd κ (26 * wa + 1))) hc hw (ca_0 ha) fX0_12 rfl dX0_faultOfPayment_1 ?_
  refine lv_iload_n hx hb dX0_faultOfPayment_4 rfl (lv_at hl 1 rfl) ?_
  obtain ⟨v1, h2, hf⟩ := xb1_of hf
  refine x_calliV (As := [.int x1]) (rest := []) (σ' := (upA wA wa (uP, uC, uD, uJ, ur, ut, ud, ug), wY)) hc hw hl.1 (m_X4_has ha h2) kX0_111 (ca_1 ha) rfl rfl ⟨rfl, rfl⟩ ⟨Nat.le_of_ble_eq_true rfl, Nat.le_of_ble_eq_true rfl⟩ ⟨Nat.zero_le _, Nat.zero_le _⟩ (Nat.le_of_ble_eq_true rfl) dX0_faultOfPayment_5 (fun H locs hw => ?_)
  refine lv_if_ne (tgt := 14) hx hb dX0_faultOfPayment_8 (by decide) (fun c3 => ?_) (fun c3 => ?_)
  · have hf := xif_f c3 hf
    refine lv_iload_n hx hb dX0_faultOfPayment_14 rfl (lv_at hl 2 rfl) ?_
    obtain ⟨v4, h5, hf⟩ := xb1_of hf
    refine x_calliN (As := [.int x2]) (rest := []) (σ' := (upA wA wa (uP, uC, uD, uJ, ur, ut, ud, ug), wY)) hc hw hl.1 (m_X7_isAmount h5) kX0_96 rfl rfl ⟨rfl, rfl⟩ ⟨Nat.le_of_ble_eq_true rfl, Nat.le_of_ble_eq_true rfl⟩ ⟨Nat.zero_le _, Nat.zero_le _⟩ (Nat.le_of_ble_eq_true rfl) dX0_faultOfPayment_15 (fun H locs hw => ?_)
    refine lv_if_eq (tgt := 25) hx hb dX0_faultOfPayment_18 (by decide) (fun c6 => ?_) (fun c6 => ?_)
    · have hf := xif_t c6 hf
      refine lv_bipush (v := 8) hx hb dX0_faultOfPayment_25 (by decide) ?_
      cases hf
      exact K _ _ _ _ dX0_faultOfPayment_27 rfl hw
    · have hf := xif_f c6 hf
      refine lv_iconst (v := 0) hx hb dX0_faultOfPayment_21 (by decide) ?_
      refine lv_goto (tgt := 27) hx hb dX0_faultOfPayment_22 (by decide) ?_
      cases hf
      exact K _ _ _ _ dX0_faultOfPayment_27 rfl hw
  · have hf := xif_t c3 hf
    refine lv_bipush (v := 7) hx hb dX0_faultOfPayment_11 (by decide) ?_
    cases hf
    exact K _ _ _ _ dX0_faultOfPayment_13 rfl hw
def f_X0_faultOfPaymentFor (x1 : Int32) (x2 : Int32) (uP : sPar) : Option Int32 :=
  xb1 (f_X4_hasBoth x1 x2 uP) fun v1 => (if v1 = 0 then (some 7) else (if x1 = x2 then (some 8) else (xb1 (f_X4_shortOf x2 uP) fun v5 => (if v5 ≤ 0 then (some 9) else (some 0)))))
set_option maxHeartbeats 4000000 in
set_option maxRecDepth 100000 in
theorem m_X0_faultOfPaymentFor {l : Launch} {κ : xKt} {wA : Nat → sAcc} {wa : Nat} {wY : sTxt × sRng × sMai × sRef × sOut} (ha : wa < 9)  {x1 : Int32} {x2 : Int32} {uP : sPar} {uC : sCla} {uD : sDeb} {uJ : sJou} {ur : xF32} {ut : xF32} {ud : Int32} {ug : Int32} {rr : Int32} (hf : f_X0_faultOfPaymentFor x1 x2 uP = some rr) : xMi l κ yX0_faultOfPaymentFor cX0_faultOfPaymentFor 3 (some .int) (xR 2 0 0) [.ref (xAd κ (26 * wa)), .int x1, .int x2] (upA wA wa (uP, uC, uD, uJ, ur, ut, ud, ug), wY) (upA wA wa (uP, uC, uD, uJ, ur, ut, ud, ug), wY) rr := by
  unfold f_X0_faultOfPaymentFor at hf
  refine xMi_of pn_X0 (Nat.le_of_ble_eq_true rfl) ⟨rfl, rfl⟩ ?_
  intro A p e s m args below meth c ls Q hc hw hl K
  have hc : xC κ A p s m args meth c cX0_faultOfPaymentFor RX0 3 (some .int) := hc
  have hx := hc.1.1
  have hb := hc.1.2.1
  have hl : lv_has ls 3 [(0, .ref (xAd κ (26 * wa))), (1, .int x1), (2, .int x2)] := hl
  refine lv_aload_n hx hb dX0_faultOfPaymentFor_0 rfl (lv_at hl 0 rfl) ?_
  refine x_get (v := .ref (xAd κ (26 * wa + 1))) hc hw (ca_0 ha) fX0_12 rfl dX0_faultOfPaymentFor_1 ?_
  refine lv_iload_n hx hb dX0_faultOfPaymentFor_4 rfl (lv_at hl 1 rfl) ?_
  refine lv_iload_n hx hb dX0_faultOfPaymentFor_5 rfl (lv_at hl 2 rfl) ?_
  obtain ⟨v1, h2, hf⟩ := xb1_of hf
  refine x_calliV (As := [.int x1, .int x2]) (rest := []) (σ' := (upA wA wa (uP, uC, uD, uJ, ur, ut, ud, ug), wY)) hc hw hl.1 (m_X4_hasBoth ha h2) kX0_89 (ca_1 ha) rfl rfl ⟨rfl, rfl⟩ ⟨Nat.le_of_ble_eq_true rfl, Nat.le_of_ble_eq_true rfl⟩ ⟨Nat.zero_le _, Nat.zero_le _⟩ (Nat.le_of_ble_eq_true rfl) dX0_faultOfPaymentFor_6 (fun H locs hw => ?_)
  refine lv_if_ne (tgt := 15) hx hb dX0_faultOfPaymentFor_9 (by decide) (fun c3 => ?_) (fun c3 => ?_)
  · have hf := xif_f c3 hf
    refine lv_iload_n hx hb dX0_faultOfPaymentFor_15 rfl (lv_at hl 1 rfl) ?_
    refine lv_iload_n hx hb dX0_faultOfPaymentFor_16 rfl (lv_at hl 2 rfl) ?_
    refine lv_icmp_ne (tgt := 23) hx hb dX0_faultOfPaymentFor_17 (by decide) (fun c4 => ?_) (fun c4 => ?_)
    · have hf := xif_f c4 hf
      refine lv_aload_n hx hb dX0_faultOfPaymentFor_23 rfl (lv_at hl 0 rfl) ?_
      refine x_get (v := .ref (xAd κ (26 * wa + 1))) hc hw (ca_0 ha) fX0_12 rfl dX0_faultOfPaymentFor_24 ?_
      refine lv_iload_n hx hb dX0_faultOfPaymentFor_27 rfl (lv_at hl 2 rfl) ?_
      obtain ⟨v5, h6, hf⟩ := xb1_of hf
      refine x_calllV (As := [.int x2]) (rest := []) (σ' := (upA wA wa (uP, uC, uD, uJ, ur, ut, ud, ug), wY)) hc hw hl.1 (m_X4_shortOf ha h6) kX0_112 (ca_1 ha) rfl rfl ⟨rfl, rfl⟩ ⟨Nat.le_of_ble_eq_true rfl, Nat.le_of_ble_eq_true rfl⟩ ⟨Nat.zero_le _, Nat.zero_le _⟩ (Nat.le_of_ble_eq_true rfl) dX0_faultOfPaymentFor_28 (fun H locs hw => ?_)
      refine lv_lconst (v := 0) hx hb dX0_faultOfPaymentFor_31 (by decide) ?_
      refine x_lcmp_le (tgt := 40) hx hb dX0_faultOfPaymentFor_32 dX0_faultOfPaymentFor_33 (by decide) (fun c7 => ?_) (fun c7 => ?_)
      · have hf := xif_t c7 hf
        refine lv_bipush (v := 9) hx hb dX0_faultOfPaymentFor_40 (by decide) ?_
        cases hf
        exact K _ _ _ _ dX0_faultOfPaymentFor_42 rfl hw
      · have hf := xif_f c7 hf
        refine lv_iconst (v := 0) hx hb dX0_faultOfPaymentFor_36 (by decide) ?_
        refine lv_goto (tgt := 42) hx hb dX0_faultOfPaymentFor_37 (by decide) ?_
        cases hf
        exact K _ _ _ _ dX0_faultOfPaymentFor_42 rfl hw
    · have hf := xif_t c4 hf
      refine lv_bipush (v := 8) hx hb dX0_faultOfPaymentFor_20 (by decide) ?_
      cases hf
      exact K _ _ _ _ dX0_faultOfPaymentFor_22 rfl hw
  · have hf := xif_t c3 hf
    refine lv_bipush (v := 7) hx hb dX0_faultOfPaymentFor_12 (by decide) ?_
    cases hf
    exact K _ _ _ _ dX0_faultOfPaymentFor_14 rfl hw
def f_X0_faultOfSettlement (fu : Nat) (x1 : Int32) (x2 : Int32) (x3 : Int32) (uP : sPar) (uD : sDeb) : Option Int32 :=
  xb1 (f_X4_hasBoth x1 x2 uP) fun v1 => (if v1 = 0 then (some 7) else (if 1 ≤ x3 then (xb1 (f_X2_owedBy fu x1 x2 uD) fun v5 => (if x3.toInt64 ≤ v5 then (some 0) else (some 4))) else (some 8)))
set_option maxHeartbeats 4000000 in
set_option maxRecDepth 100000 in
theorem m_X0_faultOfSettlement {l : Launch} {κ : xKt} {wA : Nat → sAcc} {wa : Nat} {wY : sTxt × sRng × sMai × sRef × sOut} (ha : wa < 9) {fu : Nat} {x1 : Int32} {x2 : Int32} {x3 : Int32} {uP : sPar} {uC : sCla} {uD : sDeb} {uJ : sJou} {ur : xF32} {ut : xF32} {ud : Int32} {ug : Int32} {rr : Int32} (hf : f_X0_faultOfSettlement fu x1 x2 x3 uP uD = some rr) : xMi l κ yX0_faultOfSettlement cX0_faultOfSettlement 4 (some .int) (xR 2 0 0) [.ref (xAd κ (26 * wa)), .int x1, .int x2, .int x3] (upA wA wa (uP, uC, uD, uJ, ur, ut, ud, ug), wY) (upA wA wa (uP, uC, uD, uJ, ur, ut, ud, ug), wY) rr := by
  unfold f_X0_faultOfSettlement at hf
  refine xMi_of pn_X0 (Nat.le_of_ble_eq_true rfl) ⟨rfl, rfl⟩ ?_
  intro A p e s m args below meth c ls Q hc hw hl K
  have hc : xC κ A p s m args meth c cX0_faultOfSettlement RX0 4 (some .int) := hc
  have hx := hc.1.1
  have hb := hc.1.2.1
  have hl : lv_has ls 4 [(0, .ref (xAd κ (26 * wa))), (1, .int x1), (2, .int x2), (3, .int x3)] := hl
  refine lv_aload_n hx hb dX0_faultOfSettlement_0 rfl (lv_at hl 0 rfl) ?_
  refine x_get (v := .ref (xAd κ (26 * wa + 1))) hc hw (ca_0 ha) fX0_12 rfl dX0_faultOfSettlement_1 ?_
  refine lv_iload_n hx hb dX0_faultOfSettlement_4 rfl (lv_at hl 1 rfl) ?_
  refine lv_iload_n hx hb dX0_faultOfSettlement_5 rfl (lv_at hl 2 rfl) ?_
  obtain ⟨v1, h2, hf⟩ := xb1_of hf
  refine x_calliV (As := [.int x1, .int x2]) (rest := []) (σ' := (upA wA wa (uP, uC, uD, uJ, ur, ut, ud, ug), wY)) hc hw hl.1 (m_X4_hasBoth ha h2) kX0_89 (ca_1 ha) rfl rfl ⟨rfl, rfl⟩ ⟨Nat.le_of_ble_eq_true rfl, Nat.le_of_ble_eq_true rfl⟩ ⟨Nat.zero_le _, Nat.zero_le _⟩ (Nat.le_of_ble_eq_true rfl) dX0_faultOfSettlement_6 (fun H locs hw => ?_)
  refine lv_if_ne (tgt := 15) hx hb dX0_faultOfSettlement_9 (by decide) (fun c3 => ?_) (fun c3 => ?_)
  · have hf := xif_f c3 hf
    refine lv_iload_n hx hb dX0_faultOfSettlement_15 rfl (lv_at hl 3 rfl) ?_
    refine lv_iconst (v := 1) hx hb dX0_faultOfSettlement_16 (by decide) ?_
    refine lv_icmp_ge (tgt := 23) hx hb dX0_faultOfSettlement_17 (by decide) (fun c4 => ?_) (fun c4 => ?_)
    · have hf := xif_t c4 hf
      refine lv_iload_n hx hb dX0_faultOfSettlement_23 rfl (lv_at hl 3 rfl) ?_
      refine lv_i2l (v := x3.toInt64) hx hb dX0_faultOfSettlement_24 rfl ?_
      refine lv_aload_n hx hb dX0_faultOfSettlement_25 rfl (lv_at hl 0 rfl) ?_
      refine x_get (v := .ref (xAd κ (26 * wa + 15))) hc hw (ca_0 ha) fX0_28 rfl dX0_faultOfSettlement_26 ?_
      refine lv_iload_n hx hb dX0_faultOfSettlement_29 rfl (lv_at hl 1 rfl) ?_
      refine lv_iload_n hx hb dX0_faultOfSettlement_30 rfl (lv_at hl 2 rfl) ?_
      obtain ⟨v5, h6, hf⟩ := xb1_of hf
      refine x_calllV (As := [.int x1, .int x2]) (rest := [.long x3.toInt64]) (σ' := (upA wA wa (uP, uC, uD, uJ, ur, ut, ud, ug), wY)) hc hw hl.1 (m_X2_owedBy ha h6) kX0_116 (ca_15 ha) rfl rfl ⟨rfl, rfl⟩ ⟨Nat.le_of_ble_eq_true rfl, Nat.le_of_ble_eq_true rfl⟩ ⟨Nat.zero_le _, Nat.zero_le _⟩ (Nat.le_of_ble_eq_true rfl) dX0_faultOfSettlement_31 (fun H locs hw => ?_)
      refine x_lcmp_le (tgt := 42) hx hb dX0_faultOfSettlement_34 dX0_faultOfSettlement_35 (by decide) (fun c7 => ?_) (fun c7 => ?_)
      · have hf := xif_t c7 hf
        refine lv_iconst (v := 0) hx hb dX0_faultOfSettlement_42 (by decide) ?_
        cases hf
        exact K _ _ _ _ dX0_faultOfSettlement_43 rfl hw
      · have hf := xif_f c7 hf
        refine lv_iconst (v := 4) hx hb dX0_faultOfSettlement_38 (by decide) ?_
        refine lv_goto (tgt := 43) hx hb dX0_faultOfSettlement_39 (by decide) ?_
        cases hf
        exact K _ _ _ _ dX0_faultOfSettlement_43 rfl hw
    · have hf := xif_f c4 hf
      refine lv_bipush (v := 8) hx hb dX0_faultOfSettlement_20 (by decide) ?_
      cases hf
      exact K _ _ _ _ dX0_faultOfSettlement_22 rfl hw
  · have hf := xif_t c3 hf
    refine lv_bipush (v := 7) hx hb dX0_faultOfSettlement_12 (by decide) ?_
    cases hf
    exact K _ _ _ _ dX0_faultOfSettlement_14 rfl hw
def f_X0_faultOfOffset (fu : Nat) (x1 : Int32) (x2 : Int32) (uP : sPar) (uD : sDeb) : Option Int32 :=
  xb1 (f_X4_hasBoth x1 x2 uP) fun v1 => (if v1 = 0 then (some 7) else (if x1 = x2 then (some 8) else (xb1 (f_X2_owedBy fu x1 x2 uD) fun v5 => (if v5 ≤ 0 then (some 5) else (xb1 (f_X2_owedBy fu x2 x1 uD) fun v8 => (if v8 ≤ 0 then (some 5) else (some 0)))))))
set_option maxHeartbeats 4000000 in
set_option maxRecDepth 100000 in
theorem m_X0_faultOfOffset {l : Launch} {κ : xKt} {wA : Nat → sAcc} {wa : Nat} {wY : sTxt × sRng × sMai × sRef × sOut} (ha : wa < 9) {fu : Nat} {x1 : Int32} {x2 : Int32} {uP : sPar} {uC : sCla} {uD : sDeb} {uJ : sJou} {ur : xF32} {ut : xF32} {ud : Int32} {ug : Int32} {rr : Int32} (hf : f_X0_faultOfOffset fu x1 x2 uP uD = some rr) : xMi l κ yX0_faultOfOffset cX0_faultOfOffset 4 (some .int) (xR 2 0 0) [.ref (xAd κ (26 * wa)), .int x1, .int x2] (upA wA wa (uP, uC, uD, uJ, ur, ut, ud, ug), wY) (upA wA wa (uP, uC, uD, uJ, ur, ut, ud, ug), wY) rr := by
  unfold f_X0_faultOfOffset at hf
  refine xMi_of pn_X0 (Nat.le_of_ble_eq_true rfl) ⟨rfl, rfl⟩ ?_
  intro A p e s m args below meth c ls Q hc hw hl K
  have hc : xC κ A p s m args meth c cX0_faultOfOffset RX0 4 (some .int) := hc
  have hx := hc.1.1
  have hb := hc.1.2.1
  have hl : lv_has ls 4 [(0, .ref (xAd κ (26 * wa))), (1, .int x1), (2, .int x2)] := hl
  refine lv_aload_n hx hb dX0_faultOfOffset_0 rfl (lv_at hl 0 rfl) ?_
  refine x_get (v := .ref (xAd κ (26 * wa + 1))) hc hw (ca_0 ha) fX0_12 rfl dX0_faultOfOffset_1 ?_
  refine lv_iload_n hx hb dX0_faultOfOffset_4 rfl (lv_at hl 1 rfl) ?_
  refine lv_iload_n hx hb dX0_faultOfOffset_5 rfl (lv_at hl 2 rfl) ?_
  obtain ⟨v1, h2, hf⟩ := xb1_of hf
  refine x_calliV (As := [.int x1, .int x2]) (rest := []) (σ' := (upA wA wa (uP, uC, uD, uJ, ur, ut, ud, ug), wY)) hc hw hl.1 (m_X4_hasBoth ha h2) kX0_89 (ca_1 ha) rfl rfl ⟨rfl, rfl⟩ ⟨Nat.le_of_ble_eq_true rfl, Nat.le_of_ble_eq_true rfl⟩ ⟨Nat.zero_le _, Nat.zero_le _⟩ (Nat.le_of_ble_eq_true rfl) dX0_faultOfOffset_6 (fun H locs hw => ?_)
  refine lv_if_ne (tgt := 15) hx hb dX0_faultOfOffset_9 (by decide) (fun c3 => ?_) (fun c3 => ?_)
  · have hf := xif_f c3 hf
    refine lv_iload_n hx hb dX0_faultOfOffset_15 rfl (lv_at hl 1 rfl) ?_
    refine lv_iload_n hx hb dX0_faultOfOffset_16 rfl (lv_at hl 2 rfl) ?_
    refine lv_icmp_ne (tgt := 23) hx hb dX0_faultOfOffset_17 (by decide) (fun c4 => ?_) (fun c4 => ?_)
    · have hf := xif_f c4 hf
      refine lv_aload_n hx hb dX0_faultOfOffset_23 rfl (lv_at hl 0 rfl) ?_
      refine x_get (v := .ref (xAd κ (26 * wa + 15))) hc hw (ca_0 ha) fX0_28 rfl dX0_faultOfOffset_24 ?_
      refine lv_iload_n hx hb dX0_faultOfOffset_27 rfl (lv_at hl 1 rfl) ?_
      refine lv_iload_n hx hb dX0_faultOfOffset_28 rfl (lv_at hl 2 rfl) ?_
      obtain ⟨v5, h6, hf⟩ := xb1_of hf
      refine x_calllV (As := [.int x1, .int x2]) (rest := []) (σ' := (upA wA wa (uP, uC, uD, uJ, ur, ut, ud, ug), wY)) hc hw hl.1 (m_X2_owedBy ha h6) kX0_116 (ca_15 ha) rfl rfl ⟨rfl, rfl⟩ ⟨Nat.le_of_ble_eq_true rfl, Nat.le_of_ble_eq_true rfl⟩ ⟨Nat.zero_le _, Nat.zero_le _⟩ (Nat.le_of_ble_eq_true rfl) dX0_faultOfOffset_29 (fun H locs hw => ?_)
      refine lv_lconst (v := 0) hx hb dX0_faultOfOffset_32 (by decide) ?_
      refine x_lcmp_le (tgt := 55) hx hb dX0_faultOfOffset_33 dX0_faultOfOffset_34 (by decide) (fun c7 => ?_) (fun c7 => ?_)
      · have hf := xif_t c7 hf
        refine lv_iconst (v := 0) hx hb dX0_faultOfOffset_55 (by decide) ?_
        refine lv_istore_n (lv' := [(3, .int 0), (0, .ref (xAd κ (26 * wa))), (1, .int x1), (2, .int x2)]) hx hb dX0_faultOfOffset_56 rfl hl (by decide) rfl (fun ls hl => ?_)
        refine lv_iload_n hx hb dX0_faultOfOffset_57 rfl (lv_at hl 0 rfl) ?_
        refine lv_if_eq (tgt := 65) hx hb dX0_faultOfOffset_58 (by decide) (fun _ => ?_) (fun q => absurd q (by decide))
        refine lv_iconst (v := 5) hx hb dX0_faultOfOffset_65 (by decide) ?_
        cases hf
        exact K _ _ _ _ dX0_faultOfOffset_66 rfl hw
      · have hf := xif_f c7 hf
        refine lv_aload_n hx hb dX0_faultOfOffset_37 rfl (lv_at hl 0 rfl) ?_
        refine x_get (v := .ref (xAd κ (26 * wa + 15))) hc hw (ca_0 ha) fX0_28 rfl dX0_faultOfOffset_38 ?_
        refine lv_iload_n hx hb dX0_faultOfOffset_41 rfl (lv_at hl 2 rfl) ?_
        refine lv_iload_n hx hb dX0_faultOfOffset_42 rfl (lv_at hl 1 rfl) ?_
        obtain ⟨v8, h9, hf⟩ := xb1_of hf
        refine x_calllV (As := [.int x2, .int x1]) (rest := []) (σ' := (upA wA wa (uP, uC, uD, uJ, ur, ut, ud, ug), wY)) hc hw hl.1 (m_X2_owedBy ha h9) kX0_116 (ca_15 ha) rfl rfl ⟨rfl, rfl⟩ ⟨Nat.le_of_ble_eq_true rfl, Nat.le_of_ble_eq_true rfl⟩ ⟨Nat.zero_le _, Nat.zero_le _⟩ (Nat.le_of_ble_eq_true rfl) dX0_faultOfOffset_43 (fun H locs hw => ?_)
        refine lv_lconst (v := 0) hx hb dX0_faultOfOffset_46 (by decide) ?_
        refine x_lcmp_le (tgt := 55) hx hb dX0_faultOfOffset_47 dX0_faultOfOffset_48 (by decide) (fun c10 => ?_) (fun c10 => ?_)
        · have hf := xif_t c10 hf
          refine lv_iconst (v := 0) hx hb dX0_faultOfOffset_55 (by decide) ?_
          refine lv_istore_n (lv' := [(3, .int 0), (0, .ref (xAd κ (26 * wa))), (1, .int x1), (2, .int x2)]) hx hb dX0_faultOfOffset_56 rfl hl (by decide) rfl (fun ls hl => ?_)
          refine lv_iload_n hx hb dX0_faultOfOffset_57 rfl (lv_at hl 0 rfl) ?_
          refine lv_if_eq (tgt := 65) hx hb dX0_faultOfOffset_58 (by decide) (fun _ => ?_) (fun q => absurd q (by decide))
          refine lv_iconst (v := 5) hx hb dX0_faultOfOffset_65 (by decide) ?_
          cases hf
          exact K _ _ _ _ dX0_faultOfOffset_66 rfl hw
        · have hf := xif_f c10 hf
          refine lv_iconst (v := 1) hx hb dX0_faultOfOffset_51 (by decide) ?_
          refine lv_goto (tgt := 56) hx hb dX0_faultOfOffset_52 (by decide) ?_
          refine lv_istore_n (lv' := [(3, .int 1), (0, .ref (xAd κ (26 * wa))), (1, .int x1), (2, .int x2)]) hx hb dX0_faultOfOffset_56 rfl hl (by decide) rfl (fun ls hl => ?_)
          refine lv_iload_n hx hb dX0_faultOfOffset_57 rfl (lv_at hl 0 rfl) ?_
          refine lv_if_eq (tgt := 65) hx hb dX0_faultOfOffset_58 (by decide) (fun q => absurd q (by decide)) (fun _ => ?_)
          refine lv_iconst (v := 0) hx hb dX0_faultOfOffset_61 (by decide) ?_
          refine lv_goto (tgt := 66) hx hb dX0_faultOfOffset_62 (by decide) ?_
          cases hf
          exact K _ _ _ _ dX0_faultOfOffset_66 rfl hw
    · have hf := xif_t c4 hf
      refine lv_bipush (v := 8) hx hb dX0_faultOfOffset_20 (by decide) ?_
      cases hf
      exact K _ _ _ _ dX0_faultOfOffset_22 rfl hw
  · have hf := xif_t c3 hf
    refine lv_bipush (v := 7) hx hb dX0_faultOfOffset_12 (by decide) ?_
    cases hf
    exact K _ _ _ _ dX0_faultOfOffset_14 rfl hw
def f_X0_faultOfDays (x1 : Int32) (ud : Int32) : Option Int32 :=
  xb1 (f_X7_isWithin x1 0 999) fun v1 => (if v1 = 0 then (some 8) else (if (ud + x1) ≤ 3650 then (some 0) else (some 9)))
set_option maxHeartbeats 4000000 in
set_option maxRecDepth 100000 in
theorem m_X0_faultOfDays {l : Launch} {κ : xKt} {wA : Nat → sAcc} {wa : Nat} {wY : sTxt × sRng × sMai × sRef × sOut} (ha : wa < 9)  {x1 : Int32} {uP : sPar} {uC : sCla} {uD : sDeb} {uJ : sJou} {ur : xF32} {ut : xF32} {ud : Int32} {ug : Int32} {rr : Int32} (hf : f_X0_faultOfDays x1 ud = some rr) : xMi l κ yX0_faultOfDays cX0_faultOfDays 2 (some .int) (xR 1 0 0) [.ref (xAd κ (26 * wa)), .int x1] (upA wA wa (uP, uC, uD, uJ, ur, ut, ud, ug), wY) (upA wA wa (uP, uC, uD, uJ, ur, ut, ud, ug), wY) rr := by
  unfold f_X0_faultOfDays at hf
  refine xMi_of pn_X0 (Nat.le_of_ble_eq_true rfl) ⟨rfl, rfl⟩ ?_
  intro A p e s m args below meth c ls Q hc hw hl K
  have hc : xC κ A p s m args meth c cX0_faultOfDays RX0 2 (some .int) := hc
  have hx := hc.1.1
  have hb := hc.1.2.1
  have hl : lv_has ls 2 [(0, .ref (xAd κ (26 * wa))), (1, .int x1)] := hl
  refine lv_iload_n hx hb dX0_faultOfDays_0 rfl (lv_at hl 1 rfl) ?_
  refine lv_iconst (v := 0) hx hb dX0_faultOfDays_1 (by decide) ?_
  refine lv_sipush (v := 999) hx hb dX0_faultOfDays_2 (by decide) ?_
  obtain ⟨v1, h2, hf⟩ := xb1_of hf
  refine x_calliN (As := [.int x1, .int 0, .int 999]) (rest := []) (σ' := (upA wA wa (uP, uC, uD, uJ, ur, ut, ud, ug), wY)) hc hw hl.1 (m_X7_isWithin h2) kX0_120 rfl rfl ⟨rfl, rfl⟩ ⟨Nat.le_of_ble_eq_true rfl, Nat.le_of_ble_eq_true rfl⟩ ⟨Nat.zero_le _, Nat.zero_le _⟩ (Nat.le_of_ble_eq_true rfl) dX0_faultOfDays_5 (fun H locs hw => ?_)
  refine lv_if_ne (tgt := 14) hx hb dX0_faultOfDays_8 (by decide) (fun c3 => ?_) (fun c3 => ?_)
  · have hf := xif_f c3 hf
    refine lv_aload_n hx hb dX0_faultOfDays_14 rfl (lv_at hl 0 rfl) ?_
    refine x_get (v := .int ud) hc hw (ca_0 ha) fX0_57 rfl dX0_faultOfDays_15 ?_
    refine lv_iload_n hx hb dX0_faultOfDays_18 rfl (lv_at hl 1 rfl) ?_
    refine lv_iadd hx hb dX0_faultOfDays_19 ?_
    refine lv_sipush (v := 3650) hx hb dX0_faultOfDays_20 (by decide) ?_
    refine lv_icmp_le (tgt := 31) hx hb dX0_faultOfDays_23 (by decide) (fun c4 => ?_) (fun c4 => ?_)
    · have hf := xif_t c4 hf
      refine lv_iconst (v := 0) hx hb dX0_faultOfDays_31 (by decide) ?_
      cases hf
      exact K _ _ _ _ dX0_faultOfDays_32 rfl hw
    · have hf := xif_f c4 hf
      refine lv_bipush (v := 9) hx hb dX0_faultOfDays_26 (by decide) ?_
      refine lv_goto (tgt := 32) hx hb dX0_faultOfDays_28 (by decide) ?_
      cases hf
      exact K _ _ _ _ dX0_faultOfDays_32 rfl hw
  · have hf := xif_t c3 hf
    refine lv_bipush (v := 8) hx hb dX0_faultOfDays_11 (by decide) ?_
    cases hf
    exact K _ _ _ _ dX0_faultOfDays_13 rfl hw
def f_X0_faultOfNextStage (ug : Int32) : Option Int32 :=
  if ug < 3 then (some 0) else (some 9)
set_option maxHeartbeats 4000000 in
set_option maxRecDepth 100000 in
theorem m_X0_faultOfNextStage {l : Launch} {κ : xKt} {wA : Nat → sAcc} {wa : Nat} {wY : sTxt × sRng × sMai × sRef × sOut} (ha : wa < 9)  {uP : sPar} {uC : sCla} {uD : sDeb} {uJ : sJou} {ur : xF32} {ut : xF32} {ud : Int32} {ug : Int32} {rr : Int32} (hf : f_X0_faultOfNextStage ug = some rr) : xMi l κ yX0_faultOfNextStage cX0_faultOfNextStage 1 (some .int) (xR 0 0 0) [.ref (xAd κ (26 * wa))] (upA wA wa (uP, uC, uD, uJ, ur, ut, ud, ug), wY) (upA wA wa (uP, uC, uD, uJ, ur, ut, ud, ug), wY) rr := by
  unfold f_X0_faultOfNextStage at hf
  refine xMi_of pn_X0 (Nat.le_of_ble_eq_true rfl) ⟨rfl, rfl⟩ ?_
  intro A p e s m args below meth c ls Q hc hw hl K
  have hc : xC κ A p s m args meth c cX0_faultOfNextStage RX0 1 (some .int) := hc
  have hx := hc.1.1
  have hb := hc.1.2.1
  have hl : lv_has ls 1 [(0, .ref (xAd κ (26 * wa)))] := hl
  refine lv_aload_n hx hb dX0_faultOfNextStage_0 rfl (lv_at hl 0 rfl) ?_
  refine x_get (v := .int ug) hc hw (ca_0 ha) fX0_61 rfl dX0_faultOfNextStage_1 ?_
  refine lv_iconst (v := 3) hx hb dX0_faultOfNextStage_4 (by decide) ?_
  refine lv_icmp_lt (tgt := 13) hx hb dX0_faultOfNextStage_5 (by decide) (fun c1 => ?_) (fun c1 => ?_)
  · have hf := xif_t c1 hf
    refine lv_iconst (v := 0) hx hb dX0_faultOfNextStage_13 (by decide) ?_
    cases hf
    exact K _ _ _ _ dX0_faultOfNextStage_14 rfl hw
  · have hf := xif_f c1 hf
    refine lv_bipush (v := 9) hx hb dX0_faultOfNextStage_8 (by decide) ?_
    refine lv_goto (tgt := 14) hx hb dX0_faultOfNextStage_10 (by decide) ?_
    cases hf
    exact K _ _ _ _ dX0_faultOfNextStage_14 rfl hw
def f_X0_makeAward (fu : Nat) (x1 : Int32) (x2 : Int32) (uC : sCla) (uD : sDeb) (uJ : sJou) : Option (sCla × sDeb × sJou) :=
  xk (xin x1 12) (xk (xin x1 12) (xk (xin x1 12) (xk (xin x1 12) (xb1 (f_X2_increase fu (uC.2.2.1 x1.toNatClampNeg) (uC.2.1 x1.toNatClampNeg) x2.toInt64 uD) fun uD_5 => (xb1 (f_X3_addOne fu 1 x2.toInt64 uJ) fun uJ_7 => (some ((uC.1, uC.2.1, uC.2.2.1, uC.2.2.2.1, (upd uC.2.2.2.2.1 x1.toNatClampNeg ((uC.2.2.2.2.1 x1.toNatClampNeg) + x2)), uC.2.2.2.2.2.1, uC.2.2.2.2.2.2), uD_5, uJ_7)))))))
set_option maxHeartbeats 4000000 in
set_option maxRecDepth 100000 in
theorem m_X0_makeAward {l : Launch} {κ : xKt} {wA : Nat → sAcc} {wa : Nat} {wY : sTxt × sRng × sMai × sRef × sOut} (ha : wa < 9) {fu : Nat} {x1 : Int32} {x2 : Int32} {uP : sPar} {uC : sCla} {uD : sDeb} {uJ : sJou} {ur : xF32} {ut : xF32} {ud : Int32} {ug : Int32} {yC : sCla} {yD : sDeb} {yJ : sJou} (hf : f_X0_makeAward fu x1 x2 uC uD uJ = some (yC, yD, yJ)) : xMv l κ yX0_makeAward cX0_makeAward 3 none (xR 2 0 0) [.ref (xAd κ (26 * wa)), .int x1, .int x2] (upA wA wa (uP, uC, uD, uJ, ur, ut, ud, ug), wY) (upA wA wa (uP, yC, yD, yJ, ur, ut, ud, ug), wY) := by
  unfold f_X0_makeAward at hf
  refine xMv_of pn_X0 (Nat.le_of_ble_eq_true rfl) ⟨rfl, rfl⟩ ?_
  intro A p e s m args below meth c ls Q hc hw hl K
  have hc : xC κ A p s m args meth c cX0_makeAward RX0 3 none := hc
  have hx := hc.1.1
  have hb := hc.1.2.1
  have hl : lv_has ls 3 [(0, .ref (xAd κ (26 * wa))), (1, .int x1), (2, .int x2)] := hl
  refine lv_aload_n hx hb dX0_makeAward_0 rfl (lv_at hl 0 rfl) ?_
  refine x_get (v := .ref (xAd κ (26 * wa + 8))) hc hw (ca_0 ha) fX0_21 rfl dX0_makeAward_1 ?_
  refine x_get (v := .ref (xAd κ (26 * wa + 12))) hc hw (ca_8 ha) fX0_124 rfl dX0_makeAward_4 ?_
  refine lv_iload_n hx hb dX0_makeAward_7 rfl (lv_at hl 1 rfl) ?_
  refine lv_dup2_11 hx hb dX0_makeAward_8 rfl rfl ?_
  obtain ⟨k1, hf⟩ := xk_of hf
  refine x_iald (n := 12) (f := uC.2.2.2.2.1) hc hw (ca_12 ha) k1 dX0_makeAward_9 ?_
  refine lv_iload_n hx hb dX0_makeAward_10 rfl (lv_at hl 2 rfl) ?_
  refine lv_iadd hx hb dX0_makeAward_11 ?_
  obtain ⟨k2, hf⟩ := xk_of hf
  refine x_iast (n := 12) (f := uC.2.2.2.2.1) (σ' := (upA wA wa (uP, (uC.1, uC.2.1, uC.2.2.1, uC.2.2.2.1, (upd uC.2.2.2.2.1 x1.toNatClampNeg ((uC.2.2.2.2.1 x1.toNatClampNeg) + x2)), uC.2.2.2.2.2.1, uC.2.2.2.2.2.2), uD, uJ, ur, ut, ud, ug), wY)) hc hw (ca_12 ha) k2 (sa_1_4 ha) dX0_makeAward_12 (fun H locs hw => ?_)
  refine lv_aload_n hx hb dX0_makeAward_13 rfl (lv_at hl 0 rfl) ?_
  refine x_get (v := .ref (xAd κ (26 * wa + 15))) hc hw (ca_0 ha) fX0_28 rfl dX0_makeAward_14 ?_
  refine lv_aload_n hx hb dX0_makeAward_17 rfl (lv_at hl 0 rfl) ?_
  refine x_get (v := .ref (xAd κ (26 * wa + 8))) hc hw (ca_0 ha) fX0_21 rfl dX0_makeAward_18 ?_
  refine x_get (v := .ref (xAd κ (26 * wa + 10))) hc hw (ca_8 ha) fX0_127 rfl dX0_makeAward_21 ?_
  refine lv_iload_n hx hb dX0_makeAward_24 rfl (lv_at hl 1 rfl) ?_
  obtain ⟨k3, hf⟩ := xk_of hf
  refine x_iald (n := 12) (f := uC.2.2.1) hc hw (ca_10 ha) k3 dX0_makeAward_25 ?_
  refine lv_aload_n hx hb dX0_makeAward_26 rfl (lv_at hl 0 rfl) ?_
  refine x_get (v := .ref (xAd κ (26 * wa + 8))) hc hw (ca_0 ha) fX0_21 rfl dX0_makeAward_27 ?_
  refine x_get (v := .ref (xAd κ (26 * wa + 9))) hc hw (ca_8 ha) fX0_130 rfl dX0_makeAward_30 ?_
  refine lv_iload_n hx hb dX0_makeAward_33 rfl (lv_at hl 1 rfl) ?_
  obtain ⟨k4, hf⟩ := xk_of hf
  refine x_iald (n := 12) (f := uC.2.1) hc hw (ca_9 ha) k4 dX0_makeAward_34 ?_
  refine lv_iload_n hx hb dX0_makeAward_35 rfl (lv_at hl 2 rfl) ?_
  refine lv_i2l (v := x2.toInt64) hx hb dX0_makeAward_36 rfl ?_
  obtain ⟨uD_5, h6, hf⟩ := xb1_of hf
  refine x_callvV (As := [.int (uC.2.2.1 x1.toNatClampNeg), .int (uC.2.1 x1.toNatClampNeg), .long x2.toInt64]) (rest := []) (σ' := (upA wA wa (uP, (uC.1, uC.2.1, uC.2.2.1, uC.2.2.2.1, (upd uC.2.2.2.2.1 x1.toNatClampNeg ((uC.2.2.2.2.1 x1.toNatClampNeg) + x2)), uC.2.2.2.2.2.1, uC.2.2.2.2.2.2), uD_5, uJ, ur, ut, ud, ug), wY)) hc hw hl.1 (m_X2_increase ha h6) kX0_133 (ca_15 ha) rfl rfl ⟨rfl, rfl⟩ ⟨Nat.le_of_ble_eq_true rfl, Nat.le_of_ble_eq_true rfl⟩ ⟨Nat.zero_le _, Nat.zero_le _⟩ (Nat.le_of_ble_eq_true rfl) dX0_makeAward_37 (fun H locs hw => ?_)
  refine lv_aload_n hx hb dX0_makeAward_40 rfl (lv_at hl 0 rfl) ?_
  refine x_get (v := .ref (xAd κ (26 * wa + 21))) hc hw (ca_0 ha) fX0_35 rfl dX0_makeAward_41 ?_
  refine lv_iconst (v := 1) hx hb dX0_makeAward_44 (by decide) ?_
  refine lv_iload_n hx hb dX0_makeAward_45 rfl (lv_at hl 2 rfl) ?_
  refine lv_i2l (v := x2.toInt64) hx hb dX0_makeAward_46 rfl ?_
  obtain ⟨uJ_7, h8, hf⟩ := xb1_of hf
  refine x_callvV (As := [.int 1, .long x2.toInt64]) (rest := []) (σ' := (upA wA wa (uP, (uC.1, uC.2.1, uC.2.2.1, uC.2.2.2.1, (upd uC.2.2.2.2.1 x1.toNatClampNeg ((uC.2.2.2.2.1 x1.toNatClampNeg) + x2)), uC.2.2.2.2.2.1, uC.2.2.2.2.2.2), uD_5, uJ_7, ur, ut, ud, ug), wY)) hc hw hl.1 (m_X3_addOne ha h8) kX0_137 (ca_21 ha) rfl rfl ⟨rfl, rfl⟩ ⟨Nat.le_of_ble_eq_true rfl, Nat.le_of_ble_eq_true rfl⟩ ⟨Nat.zero_le _, Nat.zero_le _⟩ (Nat.le_of_ble_eq_true rfl) dX0_makeAward_47 (fun H locs hw => ?_)
  cases hf
  exact K _ _ _ _ dX0_makeAward_50 hw
def f_X0_makeDismissal (fu : Nat) (x1 : Int32) (x2 : Int32) (uC : sCla) (uJ : sJou) : Option (sCla × sJou) :=
  xk (xin x1 12) (xk (xin x1 12) (xb1 (f_X3_addOne fu 2 x2.toInt64 uJ) fun uJ_3 => (some ((uC.1, uC.2.1, uC.2.2.1, uC.2.2.2.1, uC.2.2.2.2.1, (upd uC.2.2.2.2.2.1 x1.toNatClampNeg ((uC.2.2.2.2.2.1 x1.toNatClampNeg) + x2)), uC.2.2.2.2.2.2), uJ_3))))
set_option maxHeartbeats 4000000 in
set_option maxRecDepth 100000 in
theorem m_X0_makeDismissal {l : Launch} {κ : xKt} {wA : Nat → sAcc} {wa : Nat} {wY : sTxt × sRng × sMai × sRef × sOut} (ha : wa < 9) {fu : Nat} {x1 : Int32} {x2 : Int32} {uP : sPar} {uC : sCla} {uD : sDeb} {uJ : sJou} {ur : xF32} {ut : xF32} {ud : Int32} {ug : Int32} {yC : sCla} {yJ : sJou} (hf : f_X0_makeDismissal fu x1 x2 uC uJ = some (yC, yJ)) : xMv l κ yX0_makeDismissal cX0_makeDismissal 3 none (xR 2 0 0) [.ref (xAd κ (26 * wa)), .int x1, .int x2] (upA wA wa (uP, uC, uD, uJ, ur, ut, ud, ug), wY) (upA wA wa (uP, yC, uD, yJ, ur, ut, ud, ug), wY) := by
  unfold f_X0_makeDismissal at hf
  refine xMv_of pn_X0 (Nat.le_of_ble_eq_true rfl) ⟨rfl, rfl⟩ ?_
  intro A p e s m args below meth c ls Q hc hw hl K
  have hc : xC κ A p s m args meth c cX0_makeDismissal RX0 3 none := hc
  have hx := hc.1.1
  have hb := hc.1.2.1
  have hl : lv_has ls 3 [(0, .ref (xAd κ (26 * wa))), (1, .int x1), (2, .int x2)] := hl
  refine lv_aload_n hx hb dX0_makeDismissal_0 rfl (lv_at hl 0 rfl) ?_
  refine x_get (v := .ref (xAd κ (26 * wa + 8))) hc hw (ca_0 ha) fX0_21 rfl dX0_makeDismissal_1 ?_
  refine x_get (v := .ref (xAd κ (26 * wa + 13))) hc hw (ca_8 ha) fX0_141 rfl dX0_makeDismissal_4 ?_
  refine lv_iload_n hx hb dX0_makeDismissal_7 rfl (lv_at hl 1 rfl) ?_
  refine lv_dup2_11 hx hb dX0_makeDismissal_8 rfl rfl ?_
  obtain ⟨k1, hf⟩ := xk_of hf
  refine x_iald (n := 12) (f := uC.2.2.2.2.2.1) hc hw (ca_13 ha) k1 dX0_makeDismissal_9 ?_
  refine lv_iload_n hx hb dX0_makeDismissal_10 rfl (lv_at hl 2 rfl) ?_
  refine lv_iadd hx hb dX0_makeDismissal_11 ?_
  obtain ⟨k2, hf⟩ := xk_of hf
  refine x_iast (n := 12) (f := uC.2.2.2.2.2.1) (σ' := (upA wA wa (uP, (uC.1, uC.2.1, uC.2.2.1, uC.2.2.2.1, uC.2.2.2.2.1, (upd uC.2.2.2.2.2.1 x1.toNatClampNeg ((uC.2.2.2.2.2.1 x1.toNatClampNeg) + x2)), uC.2.2.2.2.2.2), uD, uJ, ur, ut, ud, ug), wY)) hc hw (ca_13 ha) k2 (sa_1_5 ha) dX0_makeDismissal_12 (fun H locs hw => ?_)
  refine lv_aload_n hx hb dX0_makeDismissal_13 rfl (lv_at hl 0 rfl) ?_
  refine x_get (v := .ref (xAd κ (26 * wa + 21))) hc hw (ca_0 ha) fX0_35 rfl dX0_makeDismissal_14 ?_
  refine lv_iconst (v := 2) hx hb dX0_makeDismissal_17 (by decide) ?_
  refine lv_iload_n hx hb dX0_makeDismissal_18 rfl (lv_at hl 2 rfl) ?_
  refine lv_i2l (v := x2.toInt64) hx hb dX0_makeDismissal_19 rfl ?_
  obtain ⟨uJ_3, h4, hf⟩ := xb1_of hf
  refine x_callvV (As := [.int 2, .long x2.toInt64]) (rest := []) (σ' := (upA wA wa (uP, (uC.1, uC.2.1, uC.2.2.1, uC.2.2.2.1, uC.2.2.2.2.1, (upd uC.2.2.2.2.2.1 x1.toNatClampNeg ((uC.2.2.2.2.2.1 x1.toNatClampNeg) + x2)), uC.2.2.2.2.2.2), uD, uJ_3, ur, ut, ud, ug), wY)) hc hw hl.1 (m_X3_addOne ha h4) kX0_137 (ca_21 ha) rfl rfl ⟨rfl, rfl⟩ ⟨Nat.le_of_ble_eq_true rfl, Nat.le_of_ble_eq_true rfl⟩ ⟨Nat.zero_le _, Nat.zero_le _⟩ (Nat.le_of_ble_eq_true rfl) dX0_makeDismissal_20 (fun H locs hw => ?_)
  cases hf
  exact K _ _ _ _ dX0_makeDismissal_23 hw
def f_X0_makeWithdrawal (fu : Nat) (x1 : Int32) (x2 : Int32) (uC : sCla) (uJ : sJou) : Option (sCla × sJou) :=
  xk (xin x1 12) (xk (xin x1 12) (xb1 (f_X3_addOne fu 3 x2.toInt64 uJ) fun uJ_3 => (some ((uC.1, uC.2.1, uC.2.2.1, uC.2.2.2.1, uC.2.2.2.2.1, uC.2.2.2.2.2.1, (upd uC.2.2.2.2.2.2 x1.toNatClampNeg ((uC.2.2.2.2.2.2 x1.toNatClampNeg) + x2))), uJ_3))))
set_option maxHeartbeats 4000000 in
set_option maxRecDepth 100000 in
theorem m_X0_makeWithdrawal {l : Launch} {κ : xKt} {wA : Nat → sAcc} {wa : Nat} {wY : sTxt × sRng × sMai × sRef × sOut} (ha : wa < 9) {fu : Nat} {x1 : Int32} {x2 : Int32} {uP : sPar} {uC : sCla} {uD : sDeb} {uJ : sJou} {ur : xF32} {ut : xF32} {ud : Int32} {ug : Int32} {yC : sCla} {yJ : sJou} (hf : f_X0_makeWithdrawal fu x1 x2 uC uJ = some (yC, yJ)) : xMv l κ yX0_makeWithdrawal cX0_makeWithdrawal 3 none (xR 2 0 0) [.ref (xAd κ (26 * wa)), .int x1, .int x2] (upA wA wa (uP, uC, uD, uJ, ur, ut, ud, ug), wY) (upA wA wa (uP, yC, uD, yJ, ur, ut, ud, ug), wY) := by
  unfold f_X0_makeWithdrawal at hf
  refine xMv_of pn_X0 (Nat.le_of_ble_eq_true rfl) ⟨rfl, rfl⟩ ?_
  intro A p e s m args below meth c ls Q hc hw hl K
  have hc : xC κ A p s m args meth c cX0_makeWithdrawal RX0 3 none := hc
  have hx := hc.1.1
  have hb := hc.1.2.1
  have hl : lv_has ls 3 [(0, .ref (xAd κ (26 * wa))), (1, .int x1), (2, .int x2)] := hl
  refine lv_aload_n hx hb dX0_makeWithdrawal_0 rfl (lv_at hl 0 rfl) ?_
  refine x_get (v := .ref (xAd κ (26 * wa + 8))) hc hw (ca_0 ha) fX0_21 rfl dX0_makeWithdrawal_1 ?_
  refine x_get (v := .ref (xAd κ (26 * wa + 14))) hc hw (ca_8 ha) fX0_144 rfl dX0_makeWithdrawal_4 ?_
  refine lv_iload_n hx hb dX0_makeWithdrawal_7 rfl (lv_at hl 1 rfl) ?_
  refine lv_dup2_11 hx hb dX0_makeWithdrawal_8 rfl rfl ?_
  obtain ⟨k1, hf⟩ := xk_of hf
  refine x_iald (n := 12) (f := uC.2.2.2.2.2.2) hc hw (ca_14 ha) k1 dX0_makeWithdrawal_9 ?_
  refine lv_iload_n hx hb dX0_makeWithdrawal_10 rfl (lv_at hl 2 rfl) ?_
  refine lv_iadd hx hb dX0_makeWithdrawal_11 ?_
  obtain ⟨k2, hf⟩ := xk_of hf
  refine x_iast (n := 12) (f := uC.2.2.2.2.2.2) (σ' := (upA wA wa (uP, (uC.1, uC.2.1, uC.2.2.1, uC.2.2.2.1, uC.2.2.2.2.1, uC.2.2.2.2.2.1, (upd uC.2.2.2.2.2.2 x1.toNatClampNeg ((uC.2.2.2.2.2.2 x1.toNatClampNeg) + x2))), uD, uJ, ur, ut, ud, ug), wY)) hc hw (ca_14 ha) k2 (sa_1_6 ha) dX0_makeWithdrawal_12 (fun H locs hw => ?_)
  refine lv_aload_n hx hb dX0_makeWithdrawal_13 rfl (lv_at hl 0 rfl) ?_
  refine x_get (v := .ref (xAd κ (26 * wa + 21))) hc hw (ca_0 ha) fX0_35 rfl dX0_makeWithdrawal_14 ?_
  refine lv_iconst (v := 3) hx hb dX0_makeWithdrawal_17 (by decide) ?_
  refine lv_iload_n hx hb dX0_makeWithdrawal_18 rfl (lv_at hl 2 rfl) ?_
  refine lv_i2l (v := x2.toInt64) hx hb dX0_makeWithdrawal_19 rfl ?_
  obtain ⟨uJ_3, h4, hf⟩ := xb1_of hf
  refine x_callvV (As := [.int 3, .long x2.toInt64]) (rest := []) (σ' := (upA wA wa (uP, (uC.1, uC.2.1, uC.2.2.1, uC.2.2.2.1, uC.2.2.2.2.1, uC.2.2.2.2.2.1, (upd uC.2.2.2.2.2.2 x1.toNatClampNeg ((uC.2.2.2.2.2.2 x1.toNatClampNeg) + x2))), uD, uJ_3, ur, ut, ud, ug), wY)) hc hw hl.1 (m_X3_addOne ha h4) kX0_137 (ca_21 ha) rfl rfl ⟨rfl, rfl⟩ ⟨Nat.le_of_ble_eq_true rfl, Nat.le_of_ble_eq_true rfl⟩ ⟨Nat.zero_le _, Nat.zero_le _⟩ (Nat.le_of_ble_eq_true rfl) dX0_makeWithdrawal_20 (fun H locs hw => ?_)
  cases hf
  exact K _ _ _ _ dX0_makeWithdrawal_23 hw
def f_X0_makeCall_9 (fu : Nat) : Nat → (Int32) → (Int32) → (Int64) → (Int32) → (sPar) → (sJou) → Option (Int64 × sPar × sJou)
  | 0, _, _, _, _, _, _ => none
  | n + 1, x1, x2, x3, x5, uP, uJ => if uP.1 ≤ x5 then (xb1 (f_X3_addOne fu 4 x3 uJ) fun uJ_2 => (some (x3, uP, uJ_2))) else (xk (xin x5 6) (if (uP.2.1 x5.toNatClampNeg) = 0 then (xb1 (f_X4_partOf fu (x1 - x2).toInt64 x5 uP) fun v10 => (xk (xin x5 6) (xk (xin x5 6) (f_X0_makeCall_9 fu n x1 x2 (x3 + v10) (x5 + 1) (uP.1, uP.2.1, uP.2.2.1, (vp_updL uP.2.2.2.1 x5.toNatClampNeg ((uP.2.2.2.1 x5.toNatClampNeg) + v10)), uP.2.2.2.2.1, uP.2.2.2.2.2.1, uP.2.2.2.2.2.2) uJ)))) else (xb1 (f_X4_partOf fu x2.toInt64 x5 uP) fun v6 => (xk (xin x5 6) (xk (xin x5 6) (f_X0_makeCall_9 fu n x1 x2 (x3 + v6) (x5 + 1) (uP.1, uP.2.1, uP.2.2.1, (vp_updL uP.2.2.2.1 x5.toNatClampNeg ((uP.2.2.2.1 x5.toNatClampNeg) + v6)), uP.2.2.2.2.1, uP.2.2.2.2.2.1, uP.2.2.2.2.2.2) uJ))))))
def f_X0_makeCall (fu : Nat) (x1 : Int32) (uP : sPar) (uJ : sJou) : Option (Int64 × sPar × sJou) :=
  f_X0_makeCall_9 fu fu x1 (x1 / 2) 0 0 uP uJ
set_option maxHeartbeats 4000000 in
set_option maxRecDepth 100000 in
theorem l_X0_makeCall_9 {l : Launch} {κ : xKt} {wA : Nat → sAcc} {wa : Nat} {wY : sTxt × sRng × sMai × sRef × sOut} (ha : wa < 9) {fu : Nat} {uC : sCla} {uD : sDeb} {ur : xF32} {ut : xF32} {ud : Int32} {ug : Int32} {A : Nat → Prop} {p : Program} {e : Env} {s : State} {m : MethodId} {args : Array Value} {below : List Frame} {meth : Method} {c : Code} {Q : State → Prop} {rr : Int64} {yP : sPar} {yJ : sJou}
    (hc : xC κ A p s m args meth c cX0_makeCall RX0 8 (some .long))
    (K : ∀ (pc : Nat) (ls : Array Slot) (H : Heap) (locs : List Loc), decode cX0_makeCall pc = .ok (.lreturn, 1) → xW κ A s (upA wA wa (yP, uC, uD, yJ, ur, ut, ud, ug), wY) H locs → W p l e (xR 2 0 0) s m args below meth c H locs 0 0 Q (F0 m pc ls [.long rr])) :
    ∀ (n : Nat) (x1 : Int32) (x2 : Int32) (x3 : Int64) (x5 : Int32) (uP : sPar) (uJ : sJou) (H : Heap) (locs : List Loc) (ls : Array Slot), f_X0_makeCall_9 fu n x1 x2 x3 x5 uP uJ = some (rr, yP, yJ) → xW κ A s (upA wA wa (uP, uC, uD, uJ, ur, ut, ud, ug), wY) H locs → lv_has ls 8 [(0, .ref (xAd κ (26 * wa))), (1, .int x1), (2, .int x2), (3, .long x3), (5, .int x5)] → W p l e (xR 2 0 0) s m args below meth c H locs 0 0 Q (F0 m 9 ls []) := by
  have hx := hc.1.1
  have hb := hc.1.2.1
  intro n
  induction n with
  | zero =>
    intro x1 x2 x3 x5 uP uJ H locs ls hf
    rw [f_X0_makeCall_9] at hf
    cases hf
  | succ n hi =>
    intro x1 x2 x3 x5 uP uJ H locs ls hf hw hl
    rw [f_X0_makeCall_9] at hf
    refine lv_iload hx hb dX0_makeCall_9 (lv_at hl 4 rfl) ?_
    refine lv_aload_n hx hb dX0_makeCall_11 rfl (lv_at hl 0 rfl) ?_
    refine x_get (v := .ref (xAd κ (26 * wa + 1))) hc hw (ca_0 ha) fX0_12 rfl dX0_makeCall_12 ?_
    refine x_get (v := .int uP.1) hc hw (ca_1 ha) fX0_64 rfl dX0_makeCall_15 ?_
    refine lv_icmp_ge (tgt := 80) hx hb dX0_makeCall_18 (by decide) (fun c1 => ?_) (fun c1 => ?_)
    · have hf := xif_t c1 hf
      refine lv_aload_n hx hb dX0_makeCall_80 rfl (lv_at hl 0 rfl) ?_
      refine x_get (v := .ref (xAd κ (26 * wa + 21))) hc hw (ca_0 ha) fX0_35 rfl dX0_makeCall_81 ?_
      refine lv_iconst (v := 4) hx hb dX0_makeCall_84 (by decide) ?_
      refine lv_lload_n hx hb dX0_makeCall_85 rfl (lv_at hl 3 rfl) ?_
      obtain ⟨uJ_2, h3, hf⟩ := xb1_of hf
      refine x_callvV (As := [.int 4, .long x3]) (rest := []) (σ' := (upA wA wa (uP, uC, uD, uJ_2, ur, ut, ud, ug), wY)) hc hw hl.1 (m_X3_addOne ha h3) kX0_137 (ca_21 ha) rfl rfl ⟨rfl, rfl⟩ ⟨Nat.le_of_ble_eq_true rfl, Nat.le_of_ble_eq_true rfl⟩ ⟨Nat.zero_le _, Nat.zero_le _⟩ (Nat.le_of_ble_eq_true rfl) dX0_makeCall_86 (fun H locs hw => ?_)
      refine lv_lload_n hx hb dX0_makeCall_89 rfl (lv_at hl 3 rfl) ?_
      cases hf
      exact K _ _ _ _ dX0_makeCall_90 hw
    · have hf := xif_f c1 hf
      refine lv_aload_n hx hb dX0_makeCall_21 rfl (lv_at hl 0 rfl) ?_
      refine x_get (v := .ref (xAd κ (26 * wa + 1))) hc hw (ca_0 ha) fX0_12 rfl dX0_makeCall_22 ?_
      refine lv_aload_n hx hb dX0_makeCall_25 rfl (lv_at hl 0 rfl) ?_
      refine x_get (v := .ref (xAd κ (26 * wa + 1))) hc hw (ca_0 ha) fX0_12 rfl dX0_makeCall_26 ?_
      refine x_get (v := .ref (xAd κ (26 * wa + 2))) hc hw (ca_1 ha) fX0_93 rfl dX0_makeCall_29 ?_
      refine lv_iload hx hb dX0_makeCall_32 (lv_at hl 4 rfl) ?_
      obtain ⟨k4, hf⟩ := xk_of hf
      refine x_iald (n := 6) (f := uP.2.1) hc hw (ca_2 ha) k4 dX0_makeCall_34 ?_
      refine lv_if_ne (tgt := 45) hx hb dX0_makeCall_35 (by decide) (fun c5 => ?_) (fun c5 => ?_)
      · have hf := xif_f c5 hf
        refine lv_iload_n hx hb dX0_makeCall_45 rfl (lv_at hl 2 rfl) ?_
        refine lv_i2l (v := x2.toInt64) hx hb dX0_makeCall_46 rfl ?_
        refine lv_iload hx hb dX0_makeCall_47 (lv_at hl 4 rfl) ?_
        obtain ⟨v6, h7, hf⟩ := xb1_of hf
        refine x_calllV (As := [.long x2.toInt64, .int x5]) (rest := []) (σ' := (upA wA wa (uP, uC, uD, uJ, ur, ut, ud, ug), wY)) hc hw hl.1 (m_X4_partOf ha h7) kX0_147 (ca_1 ha) rfl rfl ⟨rfl, rfl⟩ ⟨Nat.le_of_ble_eq_true rfl, Nat.le_of_ble_eq_true rfl⟩ ⟨Nat.zero_le _, Nat.zero_le _⟩ (Nat.le_of_ble_eq_true rfl) dX0_makeCall_49 (fun H locs hw => ?_)
        refine lv_lstore (lv' := [(6, .long v6), (0, .ref (xAd κ (26 * wa))), (1, .int x1), (2, .int x2), (3, .long x3), (5, .int x5)]) hx hb dX0_makeCall_52 hl (by decide) rfl (fun ls hl => ?_)
        refine lv_aload_n hx hb dX0_makeCall_54 rfl (lv_at hl 1 rfl) ?_
        refine x_get (v := .ref (xAd κ (26 * wa + 1))) hc hw (ca_0 ha) fX0_12 rfl dX0_makeCall_55 ?_
        refine x_get (v := .ref (xAd κ (26 * wa + 4))) hc hw (ca_1 ha) fX0_151 rfl dX0_makeCall_58 ?_
        refine lv_iload hx hb dX0_makeCall_61 (lv_at hl 5 rfl) ?_
        refine lv_dup2_11 hx hb dX0_makeCall_63 rfl rfl ?_
        obtain ⟨k8, hf⟩ := xk_of hf
        refine x_lald (n := 6) (f := uP.2.2.2.1) hc hw (ca_4 ha) k8 dX0_makeCall_64 ?_
        refine lv_lload hx hb dX0_makeCall_65 (lv_at hl 0 rfl) ?_
        refine lv_ladd hx hb dX0_makeCall_67 ?_
        obtain ⟨k9, hf⟩ := xk_of hf
        refine x_last (n := 6) (f := uP.2.2.2.1) (σ' := (upA wA wa ((uP.1, uP.2.1, uP.2.2.1, (vp_updL uP.2.2.2.1 x5.toNatClampNeg ((uP.2.2.2.1 x5.toNatClampNeg) + v6)), uP.2.2.2.2.1, uP.2.2.2.2.2.1, uP.2.2.2.2.2.2), uC, uD, uJ, ur, ut, ud, ug), wY)) hc hw (ca_4 ha) k9 (sa_0_3 ha) dX0_makeCall_68 (fun H locs hw => ?_)
        refine lv_lload_n hx hb dX0_makeCall_69 rfl (lv_at hl 4 rfl) ?_
        refine lv_lload hx hb dX0_makeCall_70 (lv_at hl 0 rfl) ?_
        refine lv_ladd hx hb dX0_makeCall_72 ?_
        refine lv_lstore_n (lv' := [(3, .long (x3 + v6)), (6, .long v6), (0, .ref (xAd κ (26 * wa))), (1, .int x1), (2, .int x2), (5, .int x5)]) hx hb dX0_makeCall_73 rfl hl (by decide) rfl (fun ls hl => ?_)
        refine lv_iinc (v := (x5 + 1)) (lv' := [(5, .int (x5 + 1)), (3, .long (x3 + v6)), (6, .long v6), (0, .ref (xAd κ (26 * wa))), (1, .int x1), (2, .int x2)]) hx hb dX0_makeCall_74 hl (k := 5) rfl rfl (by decide) rfl (fun ls hl => ?_)
        refine lv_goto (tgt := 9) hx hb dX0_makeCall_77 (by decide) ?_
        exact hi _ _ _ _ _ _ _ _ _ hf hw (lv_sub hl [3, 4, 5, 1, 0] rfl)
      · have hf := xif_t c5 hf
        refine lv_iload_n hx hb dX0_makeCall_38 rfl (lv_at hl 1 rfl) ?_
        refine lv_iload_n hx hb dX0_makeCall_39 rfl (lv_at hl 2 rfl) ?_
        refine lv_isub hx hb dX0_makeCall_40 ?_
        refine lv_i2l (v := (x1 - x2).toInt64) hx hb dX0_makeCall_41 rfl ?_
        refine lv_goto (tgt := 47) hx hb dX0_makeCall_42 (by decide) ?_
        refine lv_iload hx hb dX0_makeCall_47 (lv_at hl 4 rfl) ?_
        obtain ⟨v10, h11, hf⟩ := xb1_of hf
        refine x_calllV (As := [.long (x1 - x2).toInt64, .int x5]) (rest := []) (σ' := (upA wA wa (uP, uC, uD, uJ, ur, ut, ud, ug), wY)) hc hw hl.1 (m_X4_partOf ha h11) kX0_147 (ca_1 ha) rfl rfl ⟨rfl, rfl⟩ ⟨Nat.le_of_ble_eq_true rfl, Nat.le_of_ble_eq_true rfl⟩ ⟨Nat.zero_le _, Nat.zero_le _⟩ (Nat.le_of_ble_eq_true rfl) dX0_makeCall_49 (fun H locs hw => ?_)
        refine lv_lstore (lv' := [(6, .long v10), (0, .ref (xAd κ (26 * wa))), (1, .int x1), (2, .int x2), (3, .long x3), (5, .int x5)]) hx hb dX0_makeCall_52 hl (by decide) rfl (fun ls hl => ?_)
        refine lv_aload_n hx hb dX0_makeCall_54 rfl (lv_at hl 1 rfl) ?_
        refine x_get (v := .ref (xAd κ (26 * wa + 1))) hc hw (ca_0 ha) fX0_12 rfl dX0_makeCall_55 ?_
        refine x_get (v := .ref (xAd κ (26 * wa + 4))) hc hw (ca_1 ha) fX0_151 rfl dX0_makeCall_58 ?_
        refine lv_iload hx hb dX0_makeCall_61 (lv_at hl 5 rfl) ?_
        refine lv_dup2_11 hx hb dX0_makeCall_63 rfl rfl ?_
        obtain ⟨k12, hf⟩ := xk_of hf
        refine x_lald (n := 6) (f := uP.2.2.2.1) hc hw (ca_4 ha) k12 dX0_makeCall_64 ?_
        refine lv_lload hx hb dX0_makeCall_65 (lv_at hl 0 rfl) ?_
        refine lv_ladd hx hb dX0_makeCall_67 ?_
        obtain ⟨k13, hf⟩ := xk_of hf
        refine x_last (n := 6) (f := uP.2.2.2.1) (σ' := (upA wA wa ((uP.1, uP.2.1, uP.2.2.1, (vp_updL uP.2.2.2.1 x5.toNatClampNeg ((uP.2.2.2.1 x5.toNatClampNeg) + v10)), uP.2.2.2.2.1, uP.2.2.2.2.2.1, uP.2.2.2.2.2.2), uC, uD, uJ, ur, ut, ud, ug), wY)) hc hw (ca_4 ha) k13 (sa_0_3 ha) dX0_makeCall_68 (fun H locs hw => ?_)
        refine lv_lload_n hx hb dX0_makeCall_69 rfl (lv_at hl 4 rfl) ?_
        refine lv_lload hx hb dX0_makeCall_70 (lv_at hl 0 rfl) ?_
        refine lv_ladd hx hb dX0_makeCall_72 ?_
        refine lv_lstore_n (lv' := [(3, .long (x3 + v10)), (6, .long v10), (0, .ref (xAd κ (26 * wa))), (1, .int x1), (2, .int x2), (5, .int x5)]) hx hb dX0_makeCall_73 rfl hl (by decide) rfl (fun ls hl => ?_)
        refine lv_iinc (v := (x5 + 1)) (lv' := [(5, .int (x5 + 1)), (3, .long (x3 + v10)), (6, .long v10), (0, .ref (xAd κ (26 * wa))), (1, .int x1), (2, .int x2)]) hx hb dX0_makeCall_74 hl (k := 5) rfl rfl (by decide) rfl (fun ls hl => ?_)
        refine lv_goto (tgt := 9) hx hb dX0_makeCall_77 (by decide) ?_
        exact hi _ _ _ _ _ _ _ _ _ hf hw (lv_sub hl [3, 4, 5, 1, 0] rfl)
set_option maxHeartbeats 4000000 in
set_option maxRecDepth 100000 in
theorem m_X0_makeCall {l : Launch} {κ : xKt} {wA : Nat → sAcc} {wa : Nat} {wY : sTxt × sRng × sMai × sRef × sOut} (ha : wa < 9) {fu : Nat} {x1 : Int32} {uP : sPar} {uC : sCla} {uD : sDeb} {uJ : sJou} {ur : xF32} {ut : xF32} {ud : Int32} {ug : Int32} {rr : Int64} {yP : sPar} {yJ : sJou} (hf : f_X0_makeCall fu x1 uP uJ = some (rr, yP, yJ)) : xMl l κ yX0_makeCall cX0_makeCall 8 (some .long) (xR 2 0 0) [.ref (xAd κ (26 * wa)), .int x1] (upA wA wa (uP, uC, uD, uJ, ur, ut, ud, ug), wY) (upA wA wa (yP, uC, uD, yJ, ur, ut, ud, ug), wY) rr := by
  unfold f_X0_makeCall at hf
  refine xMl_of pn_X0 (Nat.le_of_ble_eq_true rfl) ⟨rfl, rfl⟩ ?_
  intro A p e s m args below meth c ls Q hc hw hl K
  have hc : xC κ A p s m args meth c cX0_makeCall RX0 8 (some .long) := hc
  have hx := hc.1.1
  have hb := hc.1.2.1
  have hl : lv_has ls 8 [(0, .ref (xAd κ (26 * wa))), (1, .int x1)] := hl
  refine lv_iload_n hx hb dX0_makeCall_0 rfl (lv_at hl 1 rfl) ?_
  refine lv_iconst (v := 2) hx hb dX0_makeCall_1 (by decide) ?_
  refine lv_idiv hx hb dX0_makeCall_2 (by decide) ?_
  refine lv_istore_n (lv' := [(2, .int (x1 / 2)), (0, .ref (xAd κ (26 * wa))), (1, .int x1)]) hx hb dX0_makeCall_3 rfl hl (by decide) rfl (fun ls hl => ?_)
  refine lv_lconst (v := 0) hx hb dX0_makeCall_4 (by decide) ?_
  refine lv_lstore_n (lv' := [(3, .long 0), (2, .int (x1 / 2)), (0, .ref (xAd κ (26 * wa))), (1, .int x1)]) hx hb dX0_makeCall_5 rfl hl (by decide) rfl (fun ls hl => ?_)
  refine lv_iconst (v := 0) hx hb dX0_makeCall_6 (by decide) ?_
  refine lv_istore (lv' := [(5, .int 0), (3, .long 0), (2, .int (x1 / 2)), (0, .ref (xAd κ (26 * wa))), (1, .int x1)]) hx hb dX0_makeCall_7 hl (by decide) rfl (fun ls hl => ?_)
  exact l_X0_makeCall_9 ha hc K fu _ _ _ _ _ _ _ _ _ hf hw (lv_sub hl [3, 4, 2, 1, 0] rfl)
def f_X0_makePayment (fu : Nat) (x1 : Int32) (x2 : Int64) (uP : sPar) (uJ : sJou) : Option (sPar × sJou) :=
  xk (xin x1 6) (xk (xin x1 6) (xb1 (f_X3_addOne fu 5 x2 uJ) fun uJ_3 => (some ((uP.1, uP.2.1, uP.2.2.1, uP.2.2.2.1, (vp_updL uP.2.2.2.2.1 x1.toNatClampNeg ((uP.2.2.2.2.1 x1.toNatClampNeg) + x2)), uP.2.2.2.2.2.1, uP.2.2.2.2.2.2), uJ_3))))
set_option maxHeartbeats 4000000 in
set_option maxRecDepth 100000 in
theorem m_X0_makePayment {l : Launch} {κ : xKt} {wA : Nat → sAcc} {wa : Nat} {wY : sTxt × sRng × sMai × sRef × sOut} (ha : wa < 9) {fu : Nat} {x1 : Int32} {x2 : Int64} {uP : sPar} {uC : sCla} {uD : sDeb} {uJ : sJou} {ur : xF32} {ut : xF32} {ud : Int32} {ug : Int32} {yP : sPar} {yJ : sJou} (hf : f_X0_makePayment fu x1 x2 uP uJ = some (yP, yJ)) : xMv l κ yX0_makePayment cX0_makePayment 4 none (xR 2 0 0) [.ref (xAd κ (26 * wa)), .int x1, .long x2] (upA wA wa (uP, uC, uD, uJ, ur, ut, ud, ug), wY) (upA wA wa (yP, uC, uD, yJ, ur, ut, ud, ug), wY) := by
  unfold f_X0_makePayment at hf
  refine xMv_of pn_X0 (Nat.le_of_ble_eq_true rfl) ⟨rfl, rfl⟩ ?_
  intro A p e s m args below meth c ls Q hc hw hl K
  have hc : xC κ A p s m args meth c cX0_makePayment RX0 4 none := hc
  have hx := hc.1.1
  have hb := hc.1.2.1
  have hl : lv_has ls 4 [(0, .ref (xAd κ (26 * wa))), (1, .int x1), (2, .long x2)] := hl
  refine lv_aload_n hx hb dX0_makePayment_0 rfl (lv_at hl 0 rfl) ?_
  refine x_get (v := .ref (xAd κ (26 * wa + 1))) hc hw (ca_0 ha) fX0_12 rfl dX0_makePayment_1 ?_
  refine x_get (v := .ref (xAd κ (26 * wa + 5))) hc hw (ca_1 ha) fX0_155 rfl dX0_makePayment_4 ?_
  refine lv_iload_n hx hb dX0_makePayment_7 rfl (lv_at hl 1 rfl) ?_
  refine lv_dup2_11 hx hb dX0_makePayment_8 rfl rfl ?_
  obtain ⟨k1, hf⟩ := xk_of hf
  refine x_lald (n := 6) (f := uP.2.2.2.2.1) hc hw (ca_5 ha) k1 dX0_makePayment_9 ?_
  refine lv_lload_n hx hb dX0_makePayment_10 rfl (lv_at hl 2 rfl) ?_
  refine lv_ladd hx hb dX0_makePayment_11 ?_
  obtain ⟨k2, hf⟩ := xk_of hf
  refine x_last (n := 6) (f := uP.2.2.2.2.1) (σ' := (upA wA wa ((uP.1, uP.2.1, uP.2.2.1, uP.2.2.2.1, (vp_updL uP.2.2.2.2.1 x1.toNatClampNeg ((uP.2.2.2.2.1 x1.toNatClampNeg) + x2)), uP.2.2.2.2.2.1, uP.2.2.2.2.2.2), uC, uD, uJ, ur, ut, ud, ug), wY)) hc hw (ca_5 ha) k2 (sa_0_4 ha) dX0_makePayment_12 (fun H locs hw => ?_)
  refine lv_aload_n hx hb dX0_makePayment_13 rfl (lv_at hl 0 rfl) ?_
  refine x_get (v := .ref (xAd κ (26 * wa + 21))) hc hw (ca_0 ha) fX0_35 rfl dX0_makePayment_14 ?_
  refine lv_iconst (v := 5) hx hb dX0_makePayment_17 (by decide) ?_
  refine lv_lload_n hx hb dX0_makePayment_18 rfl (lv_at hl 2 rfl) ?_
  obtain ⟨uJ_3, h4, hf⟩ := xb1_of hf
  refine x_callvV (As := [.int 5, .long x2]) (rest := []) (σ' := (upA wA wa ((uP.1, uP.2.1, uP.2.2.1, uP.2.2.2.1, (vp_updL uP.2.2.2.2.1 x1.toNatClampNeg ((uP.2.2.2.2.1 x1.toNatClampNeg) + x2)), uP.2.2.2.2.2.1, uP.2.2.2.2.2.2), uC, uD, uJ_3, ur, ut, ud, ug), wY)) hc hw hl.1 (m_X3_addOne ha h4) kX0_137 (ca_21 ha) rfl rfl ⟨rfl, rfl⟩ ⟨Nat.le_of_ble_eq_true rfl, Nat.le_of_ble_eq_true rfl⟩ ⟨Nat.zero_le _, Nat.zero_le _⟩ (Nat.le_of_ble_eq_true rfl) dX0_makePayment_19 (fun H locs hw => ?_)
  cases hf
  exact K _ _ _ _ dX0_makePayment_22 hw
def f_X0_makePaymentFor (fu : Nat) (x1 : Int32) (x2 : Int32) (uP : sPar) (uD : sDeb) (uJ : sJou) : Option (Int64 × sPar × sDeb × sJou) :=
  xb1 (f_X4_shortOf x2 uP) fun v1 => (xb2 (f_X0_makePayment fu x2 v1 uP uJ) fun uP_3 uJ_4 => (xb1 (f_X2_increase fu x2 x1 v1 uD) fun uD_6 => (some (v1, uP_3, uD_6, uJ_4))))
set_option maxHeartbeats 4000000 in
set_option maxRecDepth 100000 in
theorem m_X0_makePaymentFor {l : Launch} {κ : xKt} {wA : Nat → sAcc} {wa : Nat} {wY : sTxt × sRng × sMai × sRef × sOut} (ha : wa < 9) {fu : Nat} {x1 : Int32} {x2 : Int32} {uP : sPar} {uC : sCla} {uD : sDeb} {uJ : sJou} {ur : xF32} {ut : xF32} {ud : Int32} {ug : Int32} {rr : Int64} {yP : sPar} {yD : sDeb} {yJ : sJou} (hf : f_X0_makePaymentFor fu x1 x2 uP uD uJ = some (rr, yP, yD, yJ)) : xMl l κ yX0_makePaymentFor cX0_makePaymentFor 5 (some .long) (xR 3 0 0) [.ref (xAd κ (26 * wa)), .int x1, .int x2] (upA wA wa (uP, uC, uD, uJ, ur, ut, ud, ug), wY) (upA wA wa (yP, uC, yD, yJ, ur, ut, ud, ug), wY) rr := by
  unfold f_X0_makePaymentFor at hf
  refine xMl_of pn_X0 (Nat.le_of_ble_eq_true rfl) ⟨rfl, rfl⟩ ?_
  intro A p e s m args below meth c ls Q hc hw hl K
  have hc : xC κ A p s m args meth c cX0_makePaymentFor RX0 5 (some .long) := hc
  have hx := hc.1.1
  have hb := hc.1.2.1
  have hl : lv_has ls 5 [(0, .ref (xAd κ (26 * wa))), (1, .int x1), (2, .int x2)] := hl
  refine lv_aload_n hx hb dX0_makePaymentFor_0 rfl (lv_at hl 0 rfl) ?_
  refine x_get (v := .ref (xAd κ (26 * wa + 1))) hc hw (ca_0 ha) fX0_12 rfl dX0_makePaymentFor_1 ?_
  refine lv_iload_n hx hb dX0_makePaymentFor_4 rfl (lv_at hl 2 rfl) ?_
  obtain ⟨v1, h2, hf⟩ := xb1_of hf
  refine x_calllV (As := [.int x2]) (rest := []) (σ' := (upA wA wa (uP, uC, uD, uJ, ur, ut, ud, ug), wY)) hc hw hl.1 (m_X4_shortOf ha h2) kX0_112 (ca_1 ha) rfl rfl ⟨rfl, rfl⟩ ⟨Nat.le_of_ble_eq_true rfl, Nat.le_of_ble_eq_true rfl⟩ ⟨Nat.zero_le _, Nat.zero_le _⟩ (Nat.le_of_ble_eq_true rfl) dX0_makePaymentFor_5 (fun H locs hw => ?_)
  refine lv_lstore_n (lv' := [(3, .long v1), (0, .ref (xAd κ (26 * wa))), (1, .int x1), (2, .int x2)]) hx hb dX0_makePaymentFor_8 rfl hl (by decide) rfl (fun ls hl => ?_)
  refine lv_aload_n hx hb dX0_makePaymentFor_9 rfl (lv_at hl 1 rfl) ?_
  refine lv_iload_n hx hb dX0_makePaymentFor_10 rfl (lv_at hl 3 rfl) ?_
  refine lv_lload_n hx hb dX0_makePaymentFor_11 rfl (lv_at hl 0 rfl) ?_
  obtain ⟨uP_3, uJ_4, h5, hf⟩ := xb2_of hf
  refine x_callvV (As := [.int x2, .long v1]) (rest := []) (σ' := (upA wA wa (uP_3, uC, uD, uJ_4, ur, ut, ud, ug), wY)) hc hw hl.1 (m_X0_makePayment ha h5) kX0_158 (ca_0 ha) rfl rfl ⟨rfl, rfl⟩ ⟨Nat.le_of_ble_eq_true rfl, Nat.le_of_ble_eq_true rfl⟩ ⟨Nat.zero_le _, Nat.zero_le _⟩ (Nat.le_of_ble_eq_true rfl) dX0_makePaymentFor_12 (fun H locs hw => ?_)
  refine lv_aload_n hx hb dX0_makePaymentFor_15 rfl (lv_at hl 1 rfl) ?_
  refine x_get (v := .ref (xAd κ (26 * wa + 15))) hc hw (ca_0 ha) fX0_28 rfl dX0_makePaymentFor_16 ?_
  refine lv_iload_n hx hb dX0_makePaymentFor_19 rfl (lv_at hl 3 rfl) ?_
  refine lv_iload_n hx hb dX0_makePaymentFor_20 rfl (lv_at hl 2 rfl) ?_
  refine lv_lload_n hx hb dX0_makePaymentFor_21 rfl (lv_at hl 0 rfl) ?_
  obtain ⟨uD_6, h7, hf⟩ := xb1_of hf
  refine x_callvV (As := [.int x2, .int x1, .long v1]) (rest := []) (σ' := (upA wA wa (uP_3, uC, uD_6, uJ_4, ur, ut, ud, ug), wY)) hc hw hl.1 (m_X2_increase ha h7) kX0_133 (ca_15 ha) rfl rfl ⟨rfl, rfl⟩ ⟨Nat.le_of_ble_eq_true rfl, Nat.le_of_ble_eq_true rfl⟩ ⟨Nat.zero_le _, Nat.zero_le _⟩ (Nat.le_of_ble_eq_true rfl) dX0_makePaymentFor_22 (fun H locs hw => ?_)
  refine lv_lload_n hx hb dX0_makePaymentFor_25 rfl (lv_at hl 0 rfl) ?_
  cases hf
  exact K _ _ _ _ dX0_makePaymentFor_26 hw
def f_X0_feeOfTier (x1 : Int64) (x3 : Int32) (ut : xF32) : Option Int64 :=
  xk (xin x3 4) (if 3 ≤ x3 then (if x1 ≤ (xTier x3.toNatClampNeg).toInt64 then (some 0) else (xk (xin x3 4) (some ((((x1 - (xTier x3.toNatClampNeg).toInt64) * (ut x3.toNatClampNeg).toInt64) / 10000))))) else (xk (xin (x3 + 1) 4) (if x1 ≤ (xTier (x3 + 1).toNatClampNeg).toInt64 then (if x1 ≤ (xTier x3.toNatClampNeg).toInt64 then (some 0) else (xk (xin x3 4) (some ((((x1 - (xTier x3.toNatClampNeg).toInt64) * (ut x3.toNatClampNeg).toInt64) / 10000))))) else (xk (xin (x3 + 1) 4) (if (xTier (x3 + 1).toNatClampNeg).toInt64 ≤ (xTier x3.toNatClampNeg).toInt64 then (some 0) else (xk (xin x3 4) (some (((((xTier (x3 + 1).toNatClampNeg).toInt64 - (xTier x3.toNatClampNeg).toInt64) * (ut x3.toNatClampNeg).toInt64) / 10000)))))))))
set_option maxHeartbeats 4000000 in
set_option maxRecDepth 100000 in
theorem m_X0_feeOfTier {l : Launch} {κ : xKt} {wA : Nat → sAcc} {wa : Nat} {wY : sTxt × sRng × sMai × sRef × sOut} (ha : wa < 9)  {x1 : Int64} {x3 : Int32} {uP : sPar} {uC : sCla} {uD : sDeb} {uJ : sJou} {ur : xF32} {ut : xF32} {ud : Int32} {ug : Int32} {rr : Int64} (hf : f_X0_feeOfTier x1 x3 ut = some rr) : xMl l κ yX0_feeOfTier cX0_feeOfTier 8 (some .long) (xR 0 0 0) [.ref (xAd κ (26 * wa)), .long x1, .int x3] (upA wA wa (uP, uC, uD, uJ, ur, ut, ud, ug), wY) (upA wA wa (uP, uC, uD, uJ, ur, ut, ud, ug), wY) rr := by
  unfold f_X0_feeOfTier at hf
  refine xMl_of pn_X0 (Nat.le_of_ble_eq_true rfl) ⟨rfl, rfl⟩ ?_
  intro A p e s m args below meth c ls Q hc hw hl K
  have hc : xC κ A p s m args meth c cX0_feeOfTier RX0 8 (some .long) := hc
  have hx := hc.1.1
  have hb := hc.1.2.1
  have hl : lv_has ls 8 [(0, .ref (xAd κ (26 * wa))), (1, .long x1), (3, .int x3)] := hl
  refine x_gets hc hw w_fieldLink_RX0_206_ArbitrationFees_Accounts_TIER_FLOORS_I_ dX0_feeOfTier_0 ?_
  refine lv_iload_n hx hb dX0_feeOfTier_3 rfl (lv_at hl 2 rfl) ?_
  obtain ⟨k1, hf⟩ := xk_of hf
  refine x_tald hc hw k1 dX0_feeOfTier_4 ?_
  refine lv_i2l (v := (xTier x3.toNatClampNeg).toInt64) hx hb dX0_feeOfTier_5 rfl ?_
  refine lv_lstore (lv' := [(4, .long (xTier x3.toNatClampNeg).toInt64), (0, .ref (xAd κ (26 * wa))), (1, .long x1), (3, .int x3)]) hx hb dX0_feeOfTier_6 hl (by decide) rfl (fun ls hl => ?_)
  refine lv_iload_n hx hb dX0_feeOfTier_8 rfl (lv_at hl 3 rfl) ?_
  refine lv_iconst (v := 3) hx hb dX0_feeOfTier_9 (by decide) ?_
  refine lv_icmp_ge (tgt := 37) hx hb dX0_feeOfTier_10 (by decide) (fun c2 => ?_) (fun c2 => ?_)
  · have hf := xif_t c2 hf
    refine lv_lload_n hx hb dX0_feeOfTier_37 rfl (lv_at hl 2 rfl) ?_
    refine lv_lstore (lv' := [(6, .long x1), (4, .long (xTier x3.toNatClampNeg).toInt64), (0, .ref (xAd κ (26 * wa))), (1, .long x1), (3, .int x3)]) hx hb dX0_feeOfTier_38 hl (by decide) rfl (fun ls hl => ?_)
    refine lv_lload hx hb dX0_feeOfTier_40 (lv_at hl 0 rfl) ?_
    refine lv_lload hx hb dX0_feeOfTier_42 (lv_at hl 1 rfl) ?_
    refine x_lcmp_le (tgt := 68) hx hb dX0_feeOfTier_44 dX0_feeOfTier_45 (by decide) (fun c3 => ?_) (fun c3 => ?_)
    · have hf := xif_t c3 hf
      refine lv_lconst (v := 0) hx hb dX0_feeOfTier_68 (by decide) ?_
      cases hf
      exact K _ _ _ _ dX0_feeOfTier_69 hw
    · have hf := xif_f c3 hf
      refine lv_lload hx hb dX0_feeOfTier_48 (lv_at hl 0 rfl) ?_
      refine lv_lload hx hb dX0_feeOfTier_50 (lv_at hl 1 rfl) ?_
      refine lv_lsub hx hb dX0_feeOfTier_52 ?_
      refine lv_aload_n hx hb dX0_feeOfTier_53 rfl (lv_at hl 2 rfl) ?_
      refine x_get (v := .ref (xAd κ (26 * wa + 25))) hc hw (ca_0 ha) fX0_54 rfl dX0_feeOfTier_54 ?_
      refine lv_iload_n hx hb dX0_feeOfTier_57 rfl (lv_at hl 4 rfl) ?_
      obtain ⟨k4, hf⟩ := xk_of hf
      refine x_iald (n := 4) (f := ut) hc hw (ca_25 ha) k4 dX0_feeOfTier_58 ?_
      refine lv_i2l (v := (ut x3.toNatClampNeg).toInt64) hx hb dX0_feeOfTier_59 rfl ?_
      refine lv_lmul hx hb dX0_feeOfTier_60 ?_
      refine x_ldc2 hc w_constantLong_RX0_209_10000 dX0_feeOfTier_61 ?_
      refine lv_ldiv hx hb dX0_feeOfTier_64 (by decide) ?_
      refine lv_goto (tgt := 69) hx hb dX0_feeOfTier_65 (by decide) ?_
      cases hf
      exact K _ _ _ _ dX0_feeOfTier_69 hw
  · have hf := xif_f c2 hf
    refine lv_lload_n hx hb dX0_feeOfTier_13 rfl (lv_at hl 2 rfl) ?_
    refine x_gets hc hw w_fieldLink_RX0_206_ArbitrationFees_Accounts_TIER_FLOORS_I_ dX0_feeOfTier_14 ?_
    refine lv_iload_n hx hb dX0_feeOfTier_17 rfl (lv_at hl 3 rfl) ?_
    refine lv_iconst (v := 1) hx hb dX0_feeOfTier_18 (by decide) ?_
    refine lv_iadd hx hb dX0_feeOfTier_19 ?_
    obtain ⟨k5, hf⟩ := xk_of hf
    refine x_tald hc hw k5 dX0_feeOfTier_20 ?_
    refine lv_i2l (v := (xTier (x3 + 1).toNatClampNeg).toInt64) hx hb dX0_feeOfTier_21 rfl ?_
    refine x_lcmp_le (tgt := 37) hx hb dX0_feeOfTier_22 dX0_feeOfTier_23 (by decide) (fun c6 => ?_) (fun c6 => ?_)
    · have hf := xif_t c6 hf
      refine lv_lload_n hx hb dX0_feeOfTier_37 rfl (lv_at hl 2 rfl) ?_
      refine lv_lstore (lv' := [(6, .long x1), (4, .long (xTier x3.toNatClampNeg).toInt64), (0, .ref (xAd κ (26 * wa))), (1, .long x1), (3, .int x3)]) hx hb dX0_feeOfTier_38 hl (by decide) rfl (fun ls hl => ?_)
      refine lv_lload hx hb dX0_feeOfTier_40 (lv_at hl 0 rfl) ?_
      refine lv_lload hx hb dX0_feeOfTier_42 (lv_at hl 1 rfl) ?_
      refine x_lcmp_le (tgt := 68) hx hb dX0_feeOfTier_44 dX0_feeOfTier_45 (by decide) (fun c7 => ?_) (fun c7 => ?_)
      · have hf := xif_t c7 hf
        refine lv_lconst (v := 0) hx hb dX0_feeOfTier_68 (by decide) ?_
        cases hf
        exact K _ _ _ _ dX0_feeOfTier_69 hw
      · have hf := xif_f c7 hf
        refine lv_lload hx hb dX0_feeOfTier_48 (lv_at hl 0 rfl) ?_
        refine lv_lload hx hb dX0_feeOfTier_50 (lv_at hl 1 rfl) ?_
        refine lv_lsub hx hb dX0_feeOfTier_52 ?_
        refine lv_aload_n hx hb dX0_feeOfTier_53 rfl (lv_at hl 2 rfl) ?_
        refine x_get (v := .ref (xAd κ (26 * wa + 25))) hc hw (ca_0 ha) fX0_54 rfl dX0_feeOfTier_54 ?_
        refine lv_iload_n hx hb dX0_feeOfTier_57 rfl (lv_at hl 4 rfl) ?_
        obtain ⟨k8, hf⟩ := xk_of hf
        refine x_iald (n := 4) (f := ut) hc hw (ca_25 ha) k8 dX0_feeOfTier_58 ?_
        refine lv_i2l (v := (ut x3.toNatClampNeg).toInt64) hx hb dX0_feeOfTier_59 rfl ?_
        refine lv_lmul hx hb dX0_feeOfTier_60 ?_
        refine x_ldc2 hc w_constantLong_RX0_209_10000 dX0_feeOfTier_61 ?_
        refine lv_ldiv hx hb dX0_feeOfTier_64 (by decide) ?_
        refine lv_goto (tgt := 69) hx hb dX0_feeOfTier_65 (by decide) ?_
        cases hf
        exact K _ _ _ _ dX0_feeOfTier_69 hw
    · have hf := xif_f c6 hf
      refine x_gets hc hw w_fieldLink_RX0_206_ArbitrationFees_Accounts_TIER_FLOORS_I_ dX0_feeOfTier_26 ?_
      refine lv_iload_n hx hb dX0_feeOfTier_29 rfl (lv_at hl 3 rfl) ?_
      refine lv_iconst (v := 1) hx hb dX0_feeOfTier_30 (by decide) ?_
      refine lv_iadd hx hb dX0_feeOfTier_31 ?_
      obtain ⟨k9, hf⟩ := xk_of hf
      refine x_tald hc hw k9 dX0_feeOfTier_32 ?_
      refine lv_i2l (v := (xTier (x3 + 1).toNatClampNeg).toInt64) hx hb dX0_feeOfTier_33 rfl ?_
      refine lv_goto (tgt := 38) hx hb dX0_feeOfTier_34 (by decide) ?_
      refine lv_lstore (lv' := [(6, .long (xTier (x3 + 1).toNatClampNeg).toInt64), (4, .long (xTier x3.toNatClampNeg).toInt64), (0, .ref (xAd κ (26 * wa))), (1, .long x1), (3, .int x3)]) hx hb dX0_feeOfTier_38 hl (by decide) rfl (fun ls hl => ?_)
      refine lv_lload hx hb dX0_feeOfTier_40 (lv_at hl 0 rfl) ?_
      refine lv_lload hx hb dX0_feeOfTier_42 (lv_at hl 1 rfl) ?_
      refine x_lcmp_le (tgt := 68) hx hb dX0_feeOfTier_44 dX0_feeOfTier_45 (by decide) (fun c10 => ?_) (fun c10 => ?_)
      · have hf := xif_t c10 hf
        refine lv_lconst (v := 0) hx hb dX0_feeOfTier_68 (by decide) ?_
        cases hf
        exact K _ _ _ _ dX0_feeOfTier_69 hw
      · have hf := xif_f c10 hf
        refine lv_lload hx hb dX0_feeOfTier_48 (lv_at hl 0 rfl) ?_
        refine lv_lload hx hb dX0_feeOfTier_50 (lv_at hl 1 rfl) ?_
        refine lv_lsub hx hb dX0_feeOfTier_52 ?_
        refine lv_aload_n hx hb dX0_feeOfTier_53 rfl (lv_at hl 2 rfl) ?_
        refine x_get (v := .ref (xAd κ (26 * wa + 25))) hc hw (ca_0 ha) fX0_54 rfl dX0_feeOfTier_54 ?_
        refine lv_iload_n hx hb dX0_feeOfTier_57 rfl (lv_at hl 4 rfl) ?_
        obtain ⟨k11, hf⟩ := xk_of hf
        refine x_iald (n := 4) (f := ut) hc hw (ca_25 ha) k11 dX0_feeOfTier_58 ?_
        refine lv_i2l (v := (ut x3.toNatClampNeg).toInt64) hx hb dX0_feeOfTier_59 rfl ?_
        refine lv_lmul hx hb dX0_feeOfTier_60 ?_
        refine x_ldc2 hc w_constantLong_RX0_209_10000 dX0_feeOfTier_61 ?_
        refine lv_ldiv hx hb dX0_feeOfTier_64 (by decide) ?_
        refine lv_goto (tgt := 69) hx hb dX0_feeOfTier_65 (by decide) ?_
        cases hf
        exact K _ _ _ _ dX0_feeOfTier_69 hw
def f_X0_feesOfSum_7 (fu : Nat) (ut : xF32) : Nat → (Int64) → (Int64) → (Int32) → Option Int64
  | 0, _, _, _ => none
  | n + 1, x1, x3, x5 => if 4 ≤ x5 then (some x3) else (xb1 (f_X0_feeOfTier x1 x5 ut) fun v2 => (f_X0_feesOfSum_7 fu ut n x1 (x3 + v2) (x5 + 1)))
def f_X0_feesOfSum (fu : Nat) (x1 : Int64) (ut : xF32) : Option Int64 :=
  f_X0_feesOfSum_7 fu ut fu x1 5000 0
set_option maxHeartbeats 4000000 in
set_option maxRecDepth 100000 in
theorem l_X0_feesOfSum_7 {l : Launch} {κ : xKt} {wA : Nat → sAcc} {wa : Nat} {wY : sTxt × sRng × sMai × sRef × sOut} (ha : wa < 9) {fu : Nat} {uP : sPar} {uC : sCla} {uD : sDeb} {uJ : sJou} {ur : xF32} {ut : xF32} {ud : Int32} {ug : Int32} {A : Nat → Prop} {p : Program} {e : Env} {s : State} {m : MethodId} {args : Array Value} {below : List Frame} {meth : Method} {c : Code} {Q : State → Prop} {rr : Int64}
    (hc : xC κ A p s m args meth c cX0_feesOfSum RX0 6 (some .long))
    (K : ∀ (pc : Nat) (ls : Array Slot) (H : Heap) (locs : List Loc), decode cX0_feesOfSum pc = .ok (.lreturn, 1) → xW κ A s (upA wA wa (uP, uC, uD, uJ, ur, ut, ud, ug), wY) H locs → W p l e (xR 1 0 0) s m args below meth c H locs 0 0 Q (F0 m pc ls [.long rr])) :
    ∀ (n : Nat) (x1 : Int64) (x3 : Int64) (x5 : Int32) (H : Heap) (locs : List Loc) (ls : Array Slot), f_X0_feesOfSum_7 fu ut n x1 x3 x5 = some rr → xW κ A s (upA wA wa (uP, uC, uD, uJ, ur, ut, ud, ug), wY) H locs → lv_has ls 6 [(0, .ref (xAd κ (26 * wa))), (1, .long x1), (3, .long x3), (5, .int x5)] → W p l e (xR 1 0 0) s m args below meth c H locs 0 0 Q (F0 m 7 ls []) := by
  have hx := hc.1.1
  have hb := hc.1.2.1
  intro n
  induction n with
  | zero =>
    intro x1 x3 x5 H locs ls hf
    rw [f_X0_feesOfSum_7] at hf
    cases hf
  | succ n hi =>
    intro x1 x3 x5 H locs ls hf hw hl
    rw [f_X0_feesOfSum_7] at hf
    refine lv_iload hx hb dX0_feesOfSum_7 (lv_at hl 3 rfl) ?_
    refine lv_iconst (v := 4) hx hb dX0_feesOfSum_9 (by decide) ?_
    refine lv_icmp_ge (tgt := 29) hx hb dX0_feesOfSum_10 (by decide) (fun c1 => ?_) (fun c1 => ?_)
    · have hf := xif_t c1 hf
      refine lv_lload_n hx hb dX0_feesOfSum_29 rfl (lv_at hl 2 rfl) ?_
      cases hf
      exact K _ _ _ _ dX0_feesOfSum_30 hw
    · have hf := xif_f c1 hf
      refine lv_lload_n hx hb dX0_feesOfSum_13 rfl (lv_at hl 2 rfl) ?_
      refine lv_aload_n hx hb dX0_feesOfSum_14 rfl (lv_at hl 0 rfl) ?_
      refine lv_lload_n hx hb dX0_feesOfSum_15 rfl (lv_at hl 1 rfl) ?_
      refine lv_iload hx hb dX0_feesOfSum_16 (lv_at hl 3 rfl) ?_
      obtain ⟨v2, h3, hf⟩ := xb1_of hf
      refine x_calllV (As := [.long x1, .int x5]) (rest := [.long x3]) (σ' := (upA wA wa (uP, uC, uD, uJ, ur, ut, ud, ug), wY)) hc hw hl.1 (m_X0_feeOfTier ha h3) kX0_213 (ca_0 ha) rfl rfl ⟨rfl, rfl⟩ ⟨Nat.le_of_ble_eq_true rfl, Nat.le_of_ble_eq_true rfl⟩ ⟨Nat.zero_le _, Nat.zero_le _⟩ (Nat.le_of_ble_eq_true rfl) dX0_feesOfSum_18 (fun H locs hw => ?_)
      refine lv_ladd hx hb dX0_feesOfSum_21 ?_
      refine lv_lstore_n (lv' := [(3, .long (x3 + v2)), (0, .ref (xAd κ (26 * wa))), (1, .long x1), (5, .int x5)]) hx hb dX0_feesOfSum_22 rfl hl (by decide) rfl (fun ls hl => ?_)
      refine lv_iinc (v := (x5 + 1)) (lv' := [(5, .int (x5 + 1)), (3, .long (x3 + v2)), (0, .ref (xAd κ (26 * wa))), (1, .long x1)]) hx hb dX0_feesOfSum_23 hl (k := 3) rfl rfl (by decide) rfl (fun ls hl => ?_)
      refine lv_goto (tgt := 7) hx hb dX0_feesOfSum_26 (by decide) ?_
      exact hi _ _ _ _ _ _ hf hw (lv_sub hl [2, 3, 1, 0] rfl)
set_option maxHeartbeats 4000000 in
set_option maxRecDepth 100000 in
theorem m_X0_feesOfSum {l : Launch} {κ : xKt} {wA : Nat → sAcc} {wa : Nat} {wY : sTxt × sRng × sMai × sRef × sOut} (ha : wa < 9) {fu : Nat} {x1 : Int64} {uP : sPar} {uC : sCla} {uD : sDeb} {uJ : sJou} {ur : xF32} {ut : xF32} {ud : Int32} {ug : Int32} {rr : Int64} (hf : f_X0_feesOfSum fu x1 ut = some rr) : xMl l κ yX0_feesOfSum cX0_feesOfSum 6 (some .long) (xR 1 0 0) [.ref (xAd κ (26 * wa)), .long x1] (upA wA wa (uP, uC, uD, uJ, ur, ut, ud, ug), wY) (upA wA wa (uP, uC, uD, uJ, ur, ut, ud, ug), wY) rr := by
  unfold f_X0_feesOfSum at hf
  refine xMl_of pn_X0 (Nat.le_of_ble_eq_true rfl) ⟨rfl, rfl⟩ ?_
  intro A p e s m args below meth c ls Q hc hw hl K
  have hc : xC κ A p s m args meth c cX0_feesOfSum RX0 6 (some .long) := hc
  have hx := hc.1.1
  have hb := hc.1.2.1
  have hl : lv_has ls 6 [(0, .ref (xAd κ (26 * wa))), (1, .long x1)] := hl
  refine x_ldc2 hc w_constantLong_RX0_211_5000 dX0_feesOfSum_0 ?_
  refine lv_lstore_n (lv' := [(3, .long 5000), (0, .ref (xAd κ (26 * wa))), (1, .long x1)]) hx hb dX0_feesOfSum_3 rfl hl (by decide) rfl (fun ls hl => ?_)
  refine lv_iconst (v := 0) hx hb dX0_feesOfSum_4 (by decide) ?_
  refine lv_istore (lv' := [(5, .int 0), (3, .long 5000), (0, .ref (xAd κ (26 * wa))), (1, .long x1)]) hx hb dX0_feesOfSum_5 hl (by decide) rfl (fun ls hl => ?_)
  exact l_X0_feesOfSum_7 ha hc K fu _ _ _ _ _ _ hf hw (lv_sub hl [2, 3, 1, 0] rfl)
def f_X0_feesOfAll (fu : Nat) (uC : sCla) (ut : xF32) : Option Int64 :=
  if uC.1 ≤ 0 then (some 0) else (xb1 (f_X1_sumInDispute fu uC) fun v2 => (xb1 (f_X0_feesOfSum fu v2 ut) fun v4 => (some v4)))
set_option maxHeartbeats 4000000 in
set_option maxRecDepth 100000 in
theorem m_X0_feesOfAll {l : Launch} {κ : xKt} {wA : Nat → sAcc} {wa : Nat} {wY : sTxt × sRng × sMai × sRef × sOut} (ha : wa < 9) {fu : Nat} {uP : sPar} {uC : sCla} {uD : sDeb} {uJ : sJou} {ur : xF32} {ut : xF32} {ud : Int32} {ug : Int32} {rr : Int64} (hf : f_X0_feesOfAll fu uC ut = some rr) : xMl l κ yX0_feesOfAll cX0_feesOfAll 1 (some .long) (xR 2 0 0) [.ref (xAd κ (26 * wa))] (upA wA wa (uP, uC, uD, uJ, ur, ut, ud, ug), wY) (upA wA wa (uP, uC, uD, uJ, ur, ut, ud, ug), wY) rr := by
  unfold f_X0_feesOfAll at hf
  refine xMl_of pn_X0 (Nat.le_of_ble_eq_true rfl) ⟨rfl, rfl⟩ ?_
  intro A p e s m args below meth c ls Q hc hw hl K
  have hc : xC κ A p s m args meth c cX0_feesOfAll RX0 1 (some .long) := hc
  have hx := hc.1.1
  have hb := hc.1.2.1
  have hl : lv_has ls 1 [(0, .ref (xAd κ (26 * wa)))] := hl
  refine lv_aload_n hx hb dX0_feesOfAll_0 rfl (lv_at hl 0 rfl) ?_
  refine x_get (v := .ref (xAd κ (26 * wa + 8))) hc hw (ca_0 ha) fX0_21 rfl dX0_feesOfAll_1 ?_
  refine x_get (v := .int uC.1) hc hw (ca_8 ha) fX0_67 rfl dX0_feesOfAll_4 ?_
  refine lv_if_le (tgt := 24) hx hb dX0_feesOfAll_7 (by decide) (fun c1 => ?_) (fun c1 => ?_)
  · have hf := xif_t c1 hf
    refine lv_lconst (v := 0) hx hb dX0_feesOfAll_24 (by decide) ?_
    cases hf
    exact K _ _ _ _ dX0_feesOfAll_25 hw
  · have hf := xif_f c1 hf
    refine lv_aload_n hx hb dX0_feesOfAll_10 rfl (lv_at hl 0 rfl) ?_
    refine lv_aload_n hx hb dX0_feesOfAll_11 rfl (lv_at hl 0 rfl) ?_
    refine x_get (v := .ref (xAd κ (26 * wa + 8))) hc hw (ca_0 ha) fX0_21 rfl dX0_feesOfAll_12 ?_
    obtain ⟨v2, h3, hf⟩ := xb1_of hf
    refine x_calllV (As := []) (rest := [.ref (xAd κ (26 * wa))]) (σ' := (upA wA wa (uP, uC, uD, uJ, ur, ut, ud, ug), wY)) hc hw hl.1 (m_X1_sumInDispute ha h3) kX0_216 (ca_8 ha) rfl rfl ⟨rfl, rfl⟩ ⟨Nat.le_of_ble_eq_true rfl, Nat.le_of_ble_eq_true rfl⟩ ⟨Nat.zero_le _, Nat.zero_le _⟩ (Nat.le_of_ble_eq_true rfl) dX0_feesOfAll_15 (fun H locs hw => ?_)
    obtain ⟨v4, h5, hf⟩ := xb1_of hf
    refine x_calllV (As := [.long v2]) (rest := []) (σ' := (upA wA wa (uP, uC, uD, uJ, ur, ut, ud, ug), wY)) hc hw hl.1 (m_X0_feesOfSum ha h5) kX0_220 (ca_0 ha) rfl rfl ⟨rfl, rfl⟩ ⟨Nat.le_of_ble_eq_true rfl, Nat.le_of_ble_eq_true rfl⟩ ⟨Nat.zero_le _, Nat.zero_le _⟩ (Nat.le_of_ble_eq_true rfl) dX0_feesOfAll_18 (fun H locs hw => ?_)
    refine lv_goto (tgt := 25) hx hb dX0_feesOfAll_21 (by decide) ?_
    cases hf
    exact K _ _ _ _ dX0_feesOfAll_25 hw
def f_X0_isClaimOf (x1 : Int32) (x2 : Int32) (uP : sPar) (uC : sCla) : Option Int32 :=
  xk (xin x1 12) (xk (xin (uC.2.1 x1.toNatClampNeg) 6) (if (uP.2.1 (uC.2.1 x1.toNatClampNeg).toNatClampNeg) = x2 then (some 1) else (some 0)))
set_option maxHeartbeats 4000000 in
set_option maxRecDepth 100000 in
theorem m_X0_isClaimOf {l : Launch} {κ : xKt} {wA : Nat → sAcc} {wa : Nat} {wY : sTxt × sRng × sMai × sRef × sOut} (ha : wa < 9)  {x1 : Int32} {x2 : Int32} {uP : sPar} {uC : sCla} {uD : sDeb} {uJ : sJou} {ur : xF32} {ut : xF32} {ud : Int32} {ug : Int32} {rr : Int32} (hf : f_X0_isClaimOf x1 x2 uP uC = some rr) : xMi l κ yX0_isClaimOf cX0_isClaimOf 3 (some .boolean) (xR 0 0 0) [.ref (xAd κ (26 * wa)), .int x1, .int x2] (upA wA wa (uP, uC, uD, uJ, ur, ut, ud, ug), wY) (upA wA wa (uP, uC, uD, uJ, ur, ut, ud, ug), wY) rr := by
  unfold f_X0_isClaimOf at hf
  refine xMi_of pn_X0 (Nat.le_of_ble_eq_true rfl) ⟨rfl, rfl⟩ ?_
  intro A p e s m args below meth c ls Q hc hw hl K
  have hc : xC κ A p s m args meth c cX0_isClaimOf RX0 3 (some .boolean) := hc
  have hx := hc.1.1
  have hb := hc.1.2.1
  have hl : lv_has ls 3 [(0, .ref (xAd κ (26 * wa))), (1, .int x1), (2, .int x2)] := hl
  refine lv_aload_n hx hb dX0_isClaimOf_0 rfl (lv_at hl 0 rfl) ?_
  refine x_get (v := .ref (xAd κ (26 * wa + 1))) hc hw (ca_0 ha) fX0_12 rfl dX0_isClaimOf_1 ?_
  refine x_get (v := .ref (xAd κ (26 * wa + 2))) hc hw (ca_1 ha) fX0_93 rfl dX0_isClaimOf_4 ?_
  refine lv_aload_n hx hb dX0_isClaimOf_7 rfl (lv_at hl 0 rfl) ?_
  refine x_get (v := .ref (xAd κ (26 * wa + 8))) hc hw (ca_0 ha) fX0_21 rfl dX0_isClaimOf_8 ?_
  refine x_get (v := .ref (xAd κ (26 * wa + 9))) hc hw (ca_8 ha) fX0_130 rfl dX0_isClaimOf_11 ?_
  refine lv_iload_n hx hb dX0_isClaimOf_14 rfl (lv_at hl 1 rfl) ?_
  obtain ⟨k1, hf⟩ := xk_of hf
  refine x_iald (n := 12) (f := uC.2.1) hc hw (ca_9 ha) k1 dX0_isClaimOf_15 ?_
  obtain ⟨k2, hf⟩ := xk_of hf
  refine x_iald (n := 6) (f := uP.2.1) hc hw (ca_2 ha) k2 dX0_isClaimOf_16 ?_
  refine lv_iload_n hx hb dX0_isClaimOf_17 rfl (lv_at hl 2 rfl) ?_
  refine lv_icmp_ne (tgt := 25) hx hb dX0_isClaimOf_18 (by decide) (fun c3 => ?_) (fun c3 => ?_)
  · have hf := xif_f c3 hf
    refine lv_iconst (v := 0) hx hb dX0_isClaimOf_25 (by decide) ?_
    cases hf
    exact K _ _ _ _ dX0_isClaimOf_26 rfl hw
  · have hf := xif_t c3 hf
    refine lv_iconst (v := 1) hx hb dX0_isClaimOf_21 (by decide) ?_
    refine lv_goto (tgt := 26) hx hb dX0_isClaimOf_22 (by decide) ?_
    cases hf
    exact K _ _ _ _ dX0_isClaimOf_26 rfl hw
def f_X0_lostBy_5 (fu : Nat) (uP : sPar) (uC : sCla) : Nat → (Int32) → (Int64) → (Int32) → Option Int64
  | 0, _, _, _ => none
  | n + 1, x1, x2, x4 => if uC.1 ≤ x4 then (some x2) else (xb1 (f_X0_isClaimOf x4 x1 uP uC) fun v2 => (if v2 = 0 then (xk (xin x4 12) (f_X0_lostBy_5 fu uP uC n x1 (x2 + (uC.2.2.2.2.1 x4.toNatClampNeg).toInt64) (x4 + 1))) else (xk (xin x4 12) (f_X0_lostBy_5 fu uP uC n x1 (x2 + (uC.2.2.2.2.2.1 x4.toNatClampNeg).toInt64) (x4 + 1)))))
def f_X0_lostBy (fu : Nat) (x1 : Int32) (uP : sPar) (uC : sCla) : Option Int64 :=
  f_X0_lostBy_5 fu uP uC fu x1 0 0
set_option maxHeartbeats 4000000 in
set_option maxRecDepth 100000 in
theorem l_X0_lostBy_5 {l : Launch} {κ : xKt} {wA : Nat → sAcc} {wa : Nat} {wY : sTxt × sRng × sMai × sRef × sOut} (ha : wa < 9) {fu : Nat} {uP : sPar} {uC : sCla} {uD : sDeb} {uJ : sJou} {ur : xF32} {ut : xF32} {ud : Int32} {ug : Int32} {A : Nat → Prop} {p : Program} {e : Env} {s : State} {m : MethodId} {args : Array Value} {below : List Frame} {meth : Method} {c : Code} {Q : State → Prop} {rr : Int64}
    (hc : xC κ A p s m args meth c cX0_lostBy RX0 5 (some .long))
    (K : ∀ (pc : Nat) (ls : Array Slot) (H : Heap) (locs : List Loc), decode cX0_lostBy pc = .ok (.lreturn, 1) → xW κ A s (upA wA wa (uP, uC, uD, uJ, ur, ut, ud, ug), wY) H locs → W p l e (xR 1 0 0) s m args below meth c H locs 0 0 Q (F0 m pc ls [.long rr])) :
    ∀ (n : Nat) (x1 : Int32) (x2 : Int64) (x4 : Int32) (H : Heap) (locs : List Loc) (ls : Array Slot), f_X0_lostBy_5 fu uP uC n x1 x2 x4 = some rr → xW κ A s (upA wA wa (uP, uC, uD, uJ, ur, ut, ud, ug), wY) H locs → lv_has ls 5 [(0, .ref (xAd κ (26 * wa))), (1, .int x1), (2, .long x2), (4, .int x4)] → W p l e (xR 1 0 0) s m args below meth c H locs 0 0 Q (F0 m 5 ls []) := by
  have hx := hc.1.1
  have hb := hc.1.2.1
  intro n
  induction n with
  | zero =>
    intro x1 x2 x4 H locs ls hf
    rw [f_X0_lostBy_5] at hf
    cases hf
  | succ n hi =>
    intro x1 x2 x4 H locs ls hf hw hl
    rw [f_X0_lostBy_5] at hf
    refine lv_iload hx hb dX0_lostBy_5 (lv_at hl 3 rfl) ?_
    refine lv_aload_n hx hb dX0_lostBy_7 rfl (lv_at hl 0 rfl) ?_
    refine x_get (v := .ref (xAd κ (26 * wa + 8))) hc hw (ca_0 ha) fX0_21 rfl dX0_lostBy_8 ?_
    refine x_get (v := .int uC.1) hc hw (ca_8 ha) fX0_67 rfl dX0_lostBy_11 ?_
    refine lv_icmp_ge (tgt := 61) hx hb dX0_lostBy_14 (by decide) (fun c1 => ?_) (fun c1 => ?_)
    · have hf := xif_t c1 hf
      refine lv_lload_n hx hb dX0_lostBy_61 rfl (lv_at hl 2 rfl) ?_
      cases hf
      exact K _ _ _ _ dX0_lostBy_62 hw
    · have hf := xif_f c1 hf
      refine lv_lload_n hx hb dX0_lostBy_17 rfl (lv_at hl 2 rfl) ?_
      refine lv_aload_n hx hb dX0_lostBy_18 rfl (lv_at hl 0 rfl) ?_
      refine lv_iload hx hb dX0_lostBy_19 (lv_at hl 3 rfl) ?_
      refine lv_iload_n hx hb dX0_lostBy_21 rfl (lv_at hl 1 rfl) ?_
      obtain ⟨v2, h3, hf⟩ := xb1_of hf
      refine x_calliV (As := [.int x4, .int x1]) (rest := [.long x2]) (σ' := (upA wA wa (uP, uC, uD, uJ, ur, ut, ud, ug), wY)) hc hw hl.1 (m_X0_isClaimOf ha h3) kX0_224 (ca_0 ha) rfl rfl ⟨rfl, rfl⟩ ⟨Nat.le_of_ble_eq_true rfl, Nat.le_of_ble_eq_true rfl⟩ ⟨Nat.zero_le _, Nat.zero_le _⟩ (Nat.le_of_ble_eq_true rfl) dX0_lostBy_22 (fun H locs hw => ?_)
      refine lv_if_eq (tgt := 42) hx hb dX0_lostBy_25 (by decide) (fun c4 => ?_) (fun c4 => ?_)
      · have hf := xif_t c4 hf
        refine lv_aload_n hx hb dX0_lostBy_42 rfl (lv_at hl 0 rfl) ?_
        refine x_get (v := .ref (xAd κ (26 * wa + 8))) hc hw (ca_0 ha) fX0_21 rfl dX0_lostBy_43 ?_
        refine x_get (v := .ref (xAd κ (26 * wa + 12))) hc hw (ca_8 ha) fX0_124 rfl dX0_lostBy_46 ?_
        refine lv_iload hx hb dX0_lostBy_49 (lv_at hl 3 rfl) ?_
        obtain ⟨k5, hf⟩ := xk_of hf
        refine x_iald (n := 12) (f := uC.2.2.2.2.1) hc hw (ca_12 ha) k5 dX0_lostBy_51 ?_
        refine lv_i2l (v := (uC.2.2.2.2.1 x4.toNatClampNeg).toInt64) hx hb dX0_lostBy_52 rfl ?_
        refine lv_ladd hx hb dX0_lostBy_53 ?_
        refine lv_lstore_n (lv' := [(2, .long (x2 + (uC.2.2.2.2.1 x4.toNatClampNeg).toInt64)), (0, .ref (xAd κ (26 * wa))), (1, .int x1), (4, .int x4)]) hx hb dX0_lostBy_54 rfl hl (by decide) rfl (fun ls hl => ?_)
        refine lv_iinc (v := (x4 + 1)) (lv' := [(4, .int (x4 + 1)), (2, .long (x2 + (uC.2.2.2.2.1 x4.toNatClampNeg).toInt64)), (0, .ref (xAd κ (26 * wa))), (1, .int x1)]) hx hb dX0_lostBy_55 hl (k := 3) rfl rfl (by decide) rfl (fun ls hl => ?_)
        refine lv_goto (tgt := 5) hx hb dX0_lostBy_58 (by decide) ?_
        exact hi _ _ _ _ _ _ hf hw (lv_sub hl [2, 3, 1, 0] rfl)
      · have hf := xif_f c4 hf
        refine lv_aload_n hx hb dX0_lostBy_28 rfl (lv_at hl 0 rfl) ?_
        refine x_get (v := .ref (xAd κ (26 * wa + 8))) hc hw (ca_0 ha) fX0_21 rfl dX0_lostBy_29 ?_
        refine x_get (v := .ref (xAd κ (26 * wa + 13))) hc hw (ca_8 ha) fX0_141 rfl dX0_lostBy_32 ?_
        refine lv_iload hx hb dX0_lostBy_35 (lv_at hl 3 rfl) ?_
        obtain ⟨k6, hf⟩ := xk_of hf
        refine x_iald (n := 12) (f := uC.2.2.2.2.2.1) hc hw (ca_13 ha) k6 dX0_lostBy_37 ?_
        refine lv_i2l (v := (uC.2.2.2.2.2.1 x4.toNatClampNeg).toInt64) hx hb dX0_lostBy_38 rfl ?_
        refine lv_goto (tgt := 53) hx hb dX0_lostBy_39 (by decide) ?_
        refine lv_ladd hx hb dX0_lostBy_53 ?_
        refine lv_lstore_n (lv' := [(2, .long (x2 + (uC.2.2.2.2.2.1 x4.toNatClampNeg).toInt64)), (0, .ref (xAd κ (26 * wa))), (1, .int x1), (4, .int x4)]) hx hb dX0_lostBy_54 rfl hl (by decide) rfl (fun ls hl => ?_)
        refine lv_iinc (v := (x4 + 1)) (lv' := [(4, .int (x4 + 1)), (2, .long (x2 + (uC.2.2.2.2.2.1 x4.toNatClampNeg).toInt64)), (0, .ref (xAd κ (26 * wa))), (1, .int x1)]) hx hb dX0_lostBy_55 hl (k := 3) rfl rfl (by decide) rfl (fun ls hl => ?_)
        refine lv_goto (tgt := 5) hx hb dX0_lostBy_58 (by decide) ?_
        exact hi _ _ _ _ _ _ hf hw (lv_sub hl [2, 3, 1, 0] rfl)
set_option maxHeartbeats 4000000 in
set_option maxRecDepth 100000 in
theorem m_X0_lostBy {l : Launch} {κ : xKt} {wA : Nat → sAcc} {wa : Nat} {wY : sTxt × sRng × sMai × sRef × sOut} (ha : wa < 9) {fu : Nat} {x1 : Int32} {uP : sPar} {uC : sCla} {uD : sDeb} {uJ : sJou} {ur : xF32} {ut : xF32} {ud : Int32} {ug : Int32} {rr : Int64} (hf : f_X0_lostBy fu x1 uP uC = some rr) : xMl l κ yX0_lostBy cX0_lostBy 5 (some .long) (xR 1 0 0) [.ref (xAd κ (26 * wa)), .int x1] (upA wA wa (uP, uC, uD, uJ, ur, ut, ud, ug), wY) (upA wA wa (uP, uC, uD, uJ, ur, ut, ud, ug), wY) rr := by
  unfold f_X0_lostBy at hf
  refine xMl_of pn_X0 (Nat.le_of_ble_eq_true rfl) ⟨rfl, rfl⟩ ?_
  intro A p e s m args below meth c ls Q hc hw hl K
  have hc : xC κ A p s m args meth c cX0_lostBy RX0 5 (some .long) := hc
  have hx := hc.1.1
  have hb := hc.1.2.1
  have hl : lv_has ls 5 [(0, .ref (xAd κ (26 * wa))), (1, .int x1)] := hl
  refine lv_lconst (v := 0) hx hb dX0_lostBy_0 (by decide) ?_
  refine lv_lstore_n (lv' := [(2, .long 0), (0, .ref (xAd κ (26 * wa))), (1, .int x1)]) hx hb dX0_lostBy_1 rfl hl (by decide) rfl (fun ls hl => ?_)
  refine lv_iconst (v := 0) hx hb dX0_lostBy_2 (by decide) ?_
  refine lv_istore (lv' := [(4, .int 0), (2, .long 0), (0, .ref (xAd κ (26 * wa))), (1, .int x1)]) hx hb dX0_lostBy_3 hl (by decide) rfl (fun ls hl => ?_)
  exact l_X0_lostBy_5 ha hc K fu _ _ _ _ _ _ hf hw (lv_sub hl [2, 3, 1, 0] rfl)
def f_X0_shareOfSide (fu : Nat) (x1 : Int32) (uP : sPar) (uC : sCla) (ut : xF32) : Option Int64 :=
  xb1 (f_X0_feesOfAll fu uC ut) fun v1 => (xb1 (f_X0_lostBy fu 1 uP uC) fun v3 => (xb1 (f_X0_lostBy fu 0 uP uC) fun v5 => (if (v5 + v3) ≤ 0 then (if x1 = 1 then (some ((v1 / 2))) else (some ((v1 - (v1 / 2))))) else (xk (xnzl (v5 + v3)) (if x1 = 1 then (some (((v1 * v3) / (v5 + v3)))) else (some ((v1 - ((v1 * v3) / (v5 + v3))))))))))
set_option maxHeartbeats 4000000 in
set_option maxRecDepth 100000 in
theorem m_X0_shareOfSide {l : Launch} {κ : xKt} {wA : Nat → sAcc} {wa : Nat} {wY : sTxt × sRng × sMai × sRef × sOut} (ha : wa < 9) {fu : Nat} {x1 : Int32} {uP : sPar} {uC : sCla} {uD : sDeb} {uJ : sJou} {ur : xF32} {ut : xF32} {ud : Int32} {ug : Int32} {rr : Int64} (hf : f_X0_shareOfSide fu x1 uP uC ut = some rr) : xMl l κ yX0_shareOfSide cX0_shareOfSide 10 (some .long) (xR 3 0 0) [.ref (xAd κ (26 * wa)), .int x1] (upA wA wa (uP, uC, uD, uJ, ur, ut, ud, ug), wY) (upA wA wa (uP, uC, uD, uJ, ur, ut, ud, ug), wY) rr := by
  unfold f_X0_shareOfSide at hf
  refine xMl_of pn_X0 (Nat.le_of_ble_eq_true rfl) ⟨rfl, rfl⟩ ?_
  intro A p e s m args below meth c ls Q hc hw hl K
  have hc : xC κ A p s m args meth c cX0_shareOfSide RX0 10 (some .long) := hc
  have hx := hc.1.1
  have hb := hc.1.2.1
  have hl : lv_has ls 10 [(0, .ref (xAd κ (26 * wa))), (1, .int x1)] := hl
  refine lv_aload_n hx hb dX0_shareOfSide_0 rfl (lv_at hl 0 rfl) ?_
  obtain ⟨v1, h2, hf⟩ := xb1_of hf
  refine x_calllV (As := []) (rest := []) (σ' := (upA wA wa (uP, uC, uD, uJ, ur, ut, ud, ug), wY)) hc hw hl.1 (m_X0_feesOfAll ha h2) kX0_230 (ca_0 ha) rfl rfl ⟨rfl, rfl⟩ ⟨Nat.le_of_ble_eq_true rfl, Nat.le_of_ble_eq_true rfl⟩ ⟨Nat.zero_le _, Nat.zero_le _⟩ (Nat.le_of_ble_eq_true rfl) dX0_shareOfSide_1 (fun H locs hw => ?_)
  refine lv_lstore_n (lv' := [(2, .long v1), (0, .ref (xAd κ (26 * wa))), (1, .int x1)]) hx hb dX0_shareOfSide_4 rfl hl (by decide) rfl (fun ls hl => ?_)
  refine lv_aload_n hx hb dX0_shareOfSide_5 rfl (lv_at hl 1 rfl) ?_
  refine lv_iconst (v := 1) hx hb dX0_shareOfSide_6 (by decide) ?_
  obtain ⟨v3, h4, hf⟩ := xb1_of hf
  refine x_calllV (As := [.int 1]) (rest := []) (σ' := (upA wA wa (uP, uC, uD, uJ, ur, ut, ud, ug), wY)) hc hw hl.1 (m_X0_lostBy ha h4) kX0_233 (ca_0 ha) rfl rfl ⟨rfl, rfl⟩ ⟨Nat.le_of_ble_eq_true rfl, Nat.le_of_ble_eq_true rfl⟩ ⟨Nat.zero_le _, Nat.zero_le _⟩ (Nat.le_of_ble_eq_true rfl) dX0_shareOfSide_7 (fun H locs hw => ?_)
  refine lv_lstore (lv' := [(4, .long v3), (2, .long v1), (0, .ref (xAd κ (26 * wa))), (1, .int x1)]) hx hb dX0_shareOfSide_10 hl (by decide) rfl (fun ls hl => ?_)
  refine lv_aload_n hx hb dX0_shareOfSide_12 rfl (lv_at hl 2 rfl) ?_
  refine lv_iconst (v := 0) hx hb dX0_shareOfSide_13 (by decide) ?_
  obtain ⟨v5, h6, hf⟩ := xb1_of hf
  refine x_calllV (As := [.int 0]) (rest := []) (σ' := (upA wA wa (uP, uC, uD, uJ, ur, ut, ud, ug), wY)) hc hw hl.1 (m_X0_lostBy ha h6) kX0_233 (ca_0 ha) rfl rfl ⟨rfl, rfl⟩ ⟨Nat.le_of_ble_eq_true rfl, Nat.le_of_ble_eq_true rfl⟩ ⟨Nat.zero_le _, Nat.zero_le _⟩ (Nat.le_of_ble_eq_true rfl) dX0_shareOfSide_14 (fun H locs hw => ?_)
  refine lv_lload hx hb dX0_shareOfSide_17 (lv_at hl 0 rfl) ?_
  refine lv_ladd hx hb dX0_shareOfSide_19 ?_
  refine lv_lstore (lv' := [(6, .long (v5 + v3)), (4, .long v3), (2, .long v1), (0, .ref (xAd κ (26 * wa))), (1, .int x1)]) hx hb dX0_shareOfSide_20 hl (by decide) rfl (fun ls hl => ?_)
  refine lv_lload hx hb dX0_shareOfSide_22 (lv_at hl 0 rfl) ?_
  refine lv_lconst (v := 0) hx hb dX0_shareOfSide_24 (by decide) ?_
  refine x_lcmp_le (tgt := 39) hx hb dX0_shareOfSide_25 dX0_shareOfSide_26 (by decide) (fun c7 => ?_) (fun c7 => ?_)
  · have hf := xif_t c7 hf
    refine lv_lload_n hx hb dX0_shareOfSide_39 rfl (lv_at hl 2 rfl) ?_
    refine x_ldc2 hc w_constantLong_RX0_236_2 dX0_shareOfSide_40 ?_
    refine lv_ldiv hx hb dX0_shareOfSide_43 (by decide) ?_
    refine lv_lstore (lv' := [(8, .long (v1 / 2)), (6, .long (v5 + v3)), (4, .long v3), (2, .long v1), (0, .ref (xAd κ (26 * wa))), (1, .int x1)]) hx hb dX0_shareOfSide_44 hl (by decide) rfl (fun ls hl => ?_)
    refine lv_iload_n hx hb dX0_shareOfSide_46 rfl (lv_at hl 5 rfl) ?_
    refine lv_iconst (v := 1) hx hb dX0_shareOfSide_47 (by decide) ?_
    refine lv_icmp_ne (tgt := 56) hx hb dX0_shareOfSide_48 (by decide) (fun c8 => ?_) (fun c8 => ?_)
    · have hf := xif_f c8 hf
      refine lv_lload_n hx hb dX0_shareOfSide_56 rfl (lv_at hl 3 rfl) ?_
      refine lv_lload hx hb dX0_shareOfSide_57 (lv_at hl 0 rfl) ?_
      refine lv_lsub hx hb dX0_shareOfSide_59 ?_
      cases hf
      exact K _ _ _ _ dX0_shareOfSide_60 hw
    · have hf := xif_t c8 hf
      refine lv_lload hx hb dX0_shareOfSide_51 (lv_at hl 0 rfl) ?_
      refine lv_goto (tgt := 60) hx hb dX0_shareOfSide_53 (by decide) ?_
      cases hf
      exact K _ _ _ _ dX0_shareOfSide_60 hw
  · have hf := xif_f c7 hf
    refine lv_lload_n hx hb dX0_shareOfSide_29 rfl (lv_at hl 2 rfl) ?_
    refine lv_lload hx hb dX0_shareOfSide_30 (lv_at hl 1 rfl) ?_
    refine lv_lmul hx hb dX0_shareOfSide_32 ?_
    refine lv_lload hx hb dX0_shareOfSide_33 (lv_at hl 0 rfl) ?_
    obtain ⟨k9, hf⟩ := xk_of hf
    refine lv_ldiv hx hb dX0_shareOfSide_35 (of_decide_eq_true k9) ?_
    refine lv_goto (tgt := 44) hx hb dX0_shareOfSide_36 (by decide) ?_
    refine lv_lstore (lv' := [(8, .long ((v1 * v3) / (v5 + v3))), (6, .long (v5 + v3)), (4, .long v3), (2, .long v1), (0, .ref (xAd κ (26 * wa))), (1, .int x1)]) hx hb dX0_shareOfSide_44 hl (by decide) rfl (fun ls hl => ?_)
    refine lv_iload_n hx hb dX0_shareOfSide_46 rfl (lv_at hl 5 rfl) ?_
    refine lv_iconst (v := 1) hx hb dX0_shareOfSide_47 (by decide) ?_
    refine lv_icmp_ne (tgt := 56) hx hb dX0_shareOfSide_48 (by decide) (fun c10 => ?_) (fun c10 => ?_)
    · have hf := xif_f c10 hf
      refine lv_lload_n hx hb dX0_shareOfSide_56 rfl (lv_at hl 3 rfl) ?_
      refine lv_lload hx hb dX0_shareOfSide_57 (lv_at hl 0 rfl) ?_
      refine lv_lsub hx hb dX0_shareOfSide_59 ?_
      cases hf
      exact K _ _ _ _ dX0_shareOfSide_60 hw
    · have hf := xif_t c10 hf
      refine lv_lload hx hb dX0_shareOfSide_51 (lv_at hl 0 rfl) ?_
      refine lv_goto (tgt := 60) hx hb dX0_shareOfSide_53 (by decide) ?_
      cases hf
      exact K _ _ _ _ dX0_shareOfSide_60 hw
def f_X0_shareOfParty (fu : Nat) (x1 : Int32) (uP : sPar) (uC : sCla) (ut : xF32) : Option Int64 :=
  xk (xin x1 6) (xb1 (f_X0_shareOfSide fu (uP.2.1 x1.toNatClampNeg) uP uC ut) fun v2 => (xb1 (f_X4_partOf fu v2 x1 uP) fun v4 => (some v4)))
set_option maxHeartbeats 4000000 in
set_option maxRecDepth 100000 in
theorem m_X0_shareOfParty {l : Launch} {κ : xKt} {wA : Nat → sAcc} {wa : Nat} {wY : sTxt × sRng × sMai × sRef × sOut} (ha : wa < 9) {fu : Nat} {x1 : Int32} {uP : sPar} {uC : sCla} {uD : sDeb} {uJ : sJou} {ur : xF32} {ut : xF32} {ud : Int32} {ug : Int32} {rr : Int64} (hf : f_X0_shareOfParty fu x1 uP uC ut = some rr) : xMl l κ yX0_shareOfParty cX0_shareOfParty 2 (some .long) (xR 4 0 0) [.ref (xAd κ (26 * wa)), .int x1] (upA wA wa (uP, uC, uD, uJ, ur, ut, ud, ug), wY) (upA wA wa (uP, uC, uD, uJ, ur, ut, ud, ug), wY) rr := by
  unfold f_X0_shareOfParty at hf
  refine xMl_of pn_X0 (Nat.le_of_ble_eq_true rfl) ⟨rfl, rfl⟩ ?_
  intro A p e s m args below meth c ls Q hc hw hl K
  have hc : xC κ A p s m args meth c cX0_shareOfParty RX0 2 (some .long) := hc
  have hx := hc.1.1
  have hb := hc.1.2.1
  have hl : lv_has ls 2 [(0, .ref (xAd κ (26 * wa))), (1, .int x1)] := hl
  refine lv_aload_n hx hb dX0_shareOfParty_0 rfl (lv_at hl 0 rfl) ?_
  refine x_get (v := .ref (xAd κ (26 * wa + 1))) hc hw (ca_0 ha) fX0_12 rfl dX0_shareOfParty_1 ?_
  refine lv_aload_n hx hb dX0_shareOfParty_4 rfl (lv_at hl 0 rfl) ?_
  refine lv_aload_n hx hb dX0_shareOfParty_5 rfl (lv_at hl 0 rfl) ?_
  refine x_get (v := .ref (xAd κ (26 * wa + 1))) hc hw (ca_0 ha) fX0_12 rfl dX0_shareOfParty_6 ?_
  refine x_get (v := .ref (xAd κ (26 * wa + 2))) hc hw (ca_1 ha) fX0_93 rfl dX0_shareOfParty_9 ?_
  refine lv_iload_n hx hb dX0_shareOfParty_12 rfl (lv_at hl 1 rfl) ?_
  obtain ⟨k1, hf⟩ := xk_of hf
  refine x_iald (n := 6) (f := uP.2.1) hc hw (ca_2 ha) k1 dX0_shareOfParty_13 ?_
  obtain ⟨v2, h3, hf⟩ := xb1_of hf
  refine x_calllV (As := [.int (uP.2.1 x1.toNatClampNeg)]) (rest := [.ref (xAd κ (26 * wa + 1))]) (σ' := (upA wA wa (uP, uC, uD, uJ, ur, ut, ud, ug), wY)) hc hw hl.1 (m_X0_shareOfSide ha h3) kX0_238 (ca_0 ha) rfl rfl ⟨rfl, rfl⟩ ⟨Nat.le_of_ble_eq_true rfl, Nat.le_of_ble_eq_true rfl⟩ ⟨Nat.zero_le _, Nat.zero_le _⟩ (Nat.le_of_ble_eq_true rfl) dX0_shareOfParty_14 (fun H locs hw => ?_)
  refine lv_iload_n hx hb dX0_shareOfParty_17 rfl (lv_at hl 1 rfl) ?_
  obtain ⟨v4, h5, hf⟩ := xb1_of hf
  refine x_calllV (As := [.long v2, .int x1]) (rest := []) (σ' := (upA wA wa (uP, uC, uD, uJ, ur, ut, ud, ug), wY)) hc hw hl.1 (m_X4_partOf ha h5) kX0_147 (ca_1 ha) rfl rfl ⟨rfl, rfl⟩ ⟨Nat.le_of_ble_eq_true rfl, Nat.le_of_ble_eq_true rfl⟩ ⟨Nat.zero_le _, Nat.zero_le _⟩ (Nat.le_of_ble_eq_true rfl) dX0_shareOfParty_18 (fun H locs hw => ?_)
  cases hf
  exact K _ _ _ _ dX0_shareOfParty_21 hw
def f_X0_takeAllFees_4 (fu : Nat) (uC : sCla) (ut : xF32) : Nat → (Int64) → (Int32) → (sPar) → (sJou) → Option (Int64 × sPar × sJou)
  | 0, _, _, _, _ => none
  | n + 1, x1, x3, uP, uJ => if uP.1 ≤ x3 then (xb1 (f_X3_addOne fu 6 x1 uJ) fun uJ_2 => (some (x1, uP, uJ_2))) else (xb1 (f_X0_shareOfParty fu x3 uP uC ut) fun v4 => (xk (xin x3 6) (xb1 (f_X4_heldFor x3 uP) fun v7 => (xk (xin x3 6) (xk (xin x3 6) (f_X0_takeAllFees_4 fu uC ut n (x1 + (xminL (v4 - (uP.2.2.2.2.2.1 x3.toNatClampNeg)) v7)) (x3 + 1) (uP.1, uP.2.1, uP.2.2.1, uP.2.2.2.1, uP.2.2.2.2.1, (vp_updL uP.2.2.2.2.2.1 x3.toNatClampNeg ((uP.2.2.2.2.2.1 x3.toNatClampNeg) + (xminL (v4 - (uP.2.2.2.2.2.1 x3.toNatClampNeg)) v7))), uP.2.2.2.2.2.2) uJ))))))
def f_X0_takeAllFees (fu : Nat) (uP : sPar) (uC : sCla) (uJ : sJou) (ut : xF32) : Option (Int64 × sPar × sJou) :=
  f_X0_takeAllFees_4 fu uC ut fu 0 0 uP uJ
set_option maxHeartbeats 4000000 in
set_option maxRecDepth 100000 in
theorem l_X0_takeAllFees_4 {l : Launch} {κ : xKt} {wA : Nat → sAcc} {wa : Nat} {wY : sTxt × sRng × sMai × sRef × sOut} (ha : wa < 9) {fu : Nat} {uC : sCla} {uD : sDeb} {ur : xF32} {ut : xF32} {ud : Int32} {ug : Int32} {A : Nat → Prop} {p : Program} {e : Env} {s : State} {m : MethodId} {args : Array Value} {below : List Frame} {meth : Method} {c : Code} {Q : State → Prop} {rr : Int64} {yP : sPar} {yJ : sJou}
    (hc : xC κ A p s m args meth c cX0_takeAllFees RX0 8 (some .long))
    (K : ∀ (pc : Nat) (ls : Array Slot) (H : Heap) (locs : List Loc), decode cX0_takeAllFees pc = .ok (.lreturn, 1) → xW κ A s (upA wA wa (yP, uC, uD, yJ, ur, ut, ud, ug), wY) H locs → W p l e (xR 5 0 0) s m args below meth c H locs 0 0 Q (F0 m pc ls [.long rr])) :
    ∀ (n : Nat) (x1 : Int64) (x3 : Int32) (uP : sPar) (uJ : sJou) (H : Heap) (locs : List Loc) (ls : Array Slot), f_X0_takeAllFees_4 fu uC ut n x1 x3 uP uJ = some (rr, yP, yJ) → xW κ A s (upA wA wa (uP, uC, uD, uJ, ur, ut, ud, ug), wY) H locs → lv_has ls 8 [(0, .ref (xAd κ (26 * wa))), (1, .long x1), (3, .int x3)] → W p l e (xR 5 0 0) s m args below meth c H locs 0 0 Q (F0 m 4 ls []) := by
  have hx := hc.1.1
  have hb := hc.1.2.1
  intro n
  induction n with
  | zero =>
    intro x1 x3 uP uJ H locs ls hf
    rw [f_X0_takeAllFees_4] at hf
    cases hf
  | succ n hi =>
    intro x1 x3 uP uJ H locs ls hf hw hl
    rw [f_X0_takeAllFees_4] at hf
    refine lv_iload_n hx hb dX0_takeAllFees_4 rfl (lv_at hl 2 rfl) ?_
    refine lv_aload_n hx hb dX0_takeAllFees_5 rfl (lv_at hl 0 rfl) ?_
    refine x_get (v := .ref (xAd κ (26 * wa + 1))) hc hw (ca_0 ha) fX0_12 rfl dX0_takeAllFees_6 ?_
    refine x_get (v := .int uP.1) hc hw (ca_1 ha) fX0_64 rfl dX0_takeAllFees_9 ?_
    refine lv_icmp_ge (tgt := 72) hx hb dX0_takeAllFees_12 (by decide) (fun c1 => ?_) (fun c1 => ?_)
    · have hf := xif_t c1 hf
      refine lv_aload_n hx hb dX0_takeAllFees_72 rfl (lv_at hl 0 rfl) ?_
      refine x_get (v := .ref (xAd κ (26 * wa + 21))) hc hw (ca_0 ha) fX0_35 rfl dX0_takeAllFees_73 ?_
      refine lv_bipush (v := 6) hx hb dX0_takeAllFees_76 (by decide) ?_
      refine lv_lload_n hx hb dX0_takeAllFees_78 rfl (lv_at hl 1 rfl) ?_
      obtain ⟨uJ_2, h3, hf⟩ := xb1_of hf
      refine x_callvV (As := [.int 6, .long x1]) (rest := []) (σ' := (upA wA wa (uP, uC, uD, uJ_2, ur, ut, ud, ug), wY)) hc hw hl.1 (m_X3_addOne ha h3) kX0_137 (ca_21 ha) rfl rfl ⟨rfl, rfl⟩ ⟨Nat.le_of_ble_eq_true rfl, Nat.le_of_ble_eq_true rfl⟩ ⟨Nat.zero_le _, Nat.zero_le _⟩ (Nat.le_of_ble_eq_true rfl) dX0_takeAllFees_79 (fun H locs hw => ?_)
      refine lv_lload_n hx hb dX0_takeAllFees_82 rfl (lv_at hl 1 rfl) ?_
      cases hf
      exact K _ _ _ _ dX0_takeAllFees_83 hw
    · have hf := xif_f c1 hf
      refine lv_aload_n hx hb dX0_takeAllFees_15 rfl (lv_at hl 0 rfl) ?_
      refine lv_iload_n hx hb dX0_takeAllFees_16 rfl (lv_at hl 2 rfl) ?_
      obtain ⟨v4, h5, hf⟩ := xb1_of hf
      refine x_calllV (As := [.int x3]) (rest := []) (σ' := (upA wA wa (uP, uC, uD, uJ, ur, ut, ud, ug), wY)) hc hw hl.1 (m_X0_shareOfParty ha h5) kX0_161 (ca_0 ha) rfl rfl ⟨rfl, rfl⟩ ⟨Nat.le_of_ble_eq_true rfl, Nat.le_of_ble_eq_true rfl⟩ ⟨Nat.zero_le _, Nat.zero_le _⟩ (Nat.le_of_ble_eq_true rfl) dX0_takeAllFees_17 (fun H locs hw => ?_)
      refine lv_aload_n hx hb dX0_takeAllFees_20 rfl (lv_at hl 0 rfl) ?_
      refine x_get (v := .ref (xAd κ (26 * wa + 1))) hc hw (ca_0 ha) fX0_12 rfl dX0_takeAllFees_21 ?_
      refine x_get (v := .ref (xAd κ (26 * wa + 6))) hc hw (ca_1 ha) fX0_164 rfl dX0_takeAllFees_24 ?_
      refine lv_iload_n hx hb dX0_takeAllFees_27 rfl (lv_at hl 2 rfl) ?_
      obtain ⟨k6, hf⟩ := xk_of hf
      refine x_lald (n := 6) (f := uP.2.2.2.2.2.1) hc hw (ca_6 ha) k6 dX0_takeAllFees_28 ?_
      refine lv_lsub hx hb dX0_takeAllFees_29 ?_
      refine lv_lstore (lv' := [(4, .long (v4 - (uP.2.2.2.2.2.1 x3.toNatClampNeg))), (0, .ref (xAd κ (26 * wa))), (1, .long x1), (3, .int x3)]) hx hb dX0_takeAllFees_30 hl (by decide) rfl (fun ls hl => ?_)
      refine lv_lload hx hb dX0_takeAllFees_32 (lv_at hl 0 rfl) ?_
      refine lv_aload_n hx hb dX0_takeAllFees_34 rfl (lv_at hl 1 rfl) ?_
      refine x_get (v := .ref (xAd κ (26 * wa + 1))) hc hw (ca_0 ha) fX0_12 rfl dX0_takeAllFees_35 ?_
      refine lv_iload_n hx hb dX0_takeAllFees_38 rfl (lv_at hl 3 rfl) ?_
      obtain ⟨v7, h8, hf⟩ := xb1_of hf
      refine x_calllV (As := [.int x3]) (rest := [.long (v4 - (uP.2.2.2.2.2.1 x3.toNatClampNeg))]) (σ' := (upA wA wa (uP, uC, uD, uJ, ur, ut, ud, ug), wY)) hc hw hl.1 (m_X4_heldFor ha h8) kX0_167 (ca_1 ha) rfl rfl ⟨rfl, rfl⟩ ⟨Nat.le_of_ble_eq_true rfl, Nat.le_of_ble_eq_true rfl⟩ ⟨Nat.zero_le _, Nat.zero_le _⟩ (Nat.le_of_ble_eq_true rfl) dX0_takeAllFees_39 (fun H locs hw => ?_)
      refine x_minL hc hl.1 mw_X0_170 ⟨Nat.le_of_ble_eq_true rfl, Nat.le_of_ble_eq_true rfl⟩ ⟨Nat.zero_le _, Nat.zero_le _⟩ dX0_takeAllFees_42 ?_
      refine lv_lstore (lv' := [(6, .long (xminL (v4 - (uP.2.2.2.2.2.1 x3.toNatClampNeg)) v7)), (4, .long (v4 - (uP.2.2.2.2.2.1 x3.toNatClampNeg))), (0, .ref (xAd κ (26 * wa))), (1, .long x1), (3, .int x3)]) hx hb dX0_takeAllFees_45 hl (by decide) rfl (fun ls hl => ?_)
      refine lv_aload_n hx hb dX0_takeAllFees_47 rfl (lv_at hl 2 rfl) ?_
      refine x_get (v := .ref (xAd κ (26 * wa + 1))) hc hw (ca_0 ha) fX0_12 rfl dX0_takeAllFees_48 ?_
      refine x_get (v := .ref (xAd κ (26 * wa + 6))) hc hw (ca_1 ha) fX0_164 rfl dX0_takeAllFees_51 ?_
      refine lv_iload_n hx hb dX0_takeAllFees_54 rfl (lv_at hl 4 rfl) ?_
      refine lv_dup2_11 hx hb dX0_takeAllFees_55 rfl rfl ?_
      obtain ⟨k9, hf⟩ := xk_of hf
      refine x_lald (n := 6) (f := uP.2.2.2.2.2.1) hc hw (ca_6 ha) k9 dX0_takeAllFees_56 ?_
      refine lv_lload hx hb dX0_takeAllFees_57 (lv_at hl 0 rfl) ?_
      refine lv_ladd hx hb dX0_takeAllFees_59 ?_
      obtain ⟨k10, hf⟩ := xk_of hf
      refine x_last (n := 6) (f := uP.2.2.2.2.2.1) (σ' := (upA wA wa ((uP.1, uP.2.1, uP.2.2.1, uP.2.2.2.1, uP.2.2.2.2.1, (vp_updL uP.2.2.2.2.2.1 x3.toNatClampNeg ((uP.2.2.2.2.2.1 x3.toNatClampNeg) + (xminL (v4 - (uP.2.2.2.2.2.1 x3.toNatClampNeg)) v7))), uP.2.2.2.2.2.2), uC, uD, uJ, ur, ut, ud, ug), wY)) hc hw (ca_6 ha) k10 (sa_0_5 ha) dX0_takeAllFees_60 (fun H locs hw => ?_)
      refine lv_lload_n hx hb dX0_takeAllFees_61 rfl (lv_at hl 3 rfl) ?_
      refine lv_lload hx hb dX0_takeAllFees_62 (lv_at hl 0 rfl) ?_
      refine lv_ladd hx hb dX0_takeAllFees_64 ?_
      refine lv_lstore_n (lv' := [(1, .long (x1 + (xminL (v4 - (uP.2.2.2.2.2.1 x3.toNatClampNeg)) v7))), (6, .long (xminL (v4 - (uP.2.2.2.2.2.1 x3.toNatClampNeg)) v7)), (4, .long (v4 - (uP.2.2.2.2.2.1 x3.toNatClampNeg))), (0, .ref (xAd κ (26 * wa))), (3, .int x3)]) hx hb dX0_takeAllFees_65 rfl hl (by decide) rfl (fun ls hl => ?_)
      refine lv_iinc (v := (x3 + 1)) (lv' := [(3, .int (x3 + 1)), (1, .long (x1 + (xminL (v4 - (uP.2.2.2.2.2.1 x3.toNatClampNeg)) v7))), (6, .long (xminL (v4 - (uP.2.2.2.2.2.1 x3.toNatClampNeg)) v7)), (4, .long (v4 - (uP.2.2.2.2.2.1 x3.toNatClampNeg))), (0, .ref (xAd κ (26 * wa)))]) hx hb dX0_takeAllFees_66 hl (k := 4) rfl rfl (by decide) rfl (fun ls hl => ?_)
      refine lv_goto (tgt := 4) hx hb dX0_takeAllFees_69 (by decide) ?_
      exact hi _ _ _ _ _ _ _ hf hw (lv_sub hl [4, 1, 0] rfl)
set_option maxHeartbeats 4000000 in
set_option maxRecDepth 100000 in
theorem m_X0_takeAllFees {l : Launch} {κ : xKt} {wA : Nat → sAcc} {wa : Nat} {wY : sTxt × sRng × sMai × sRef × sOut} (ha : wa < 9) {fu : Nat} {uP : sPar} {uC : sCla} {uD : sDeb} {uJ : sJou} {ur : xF32} {ut : xF32} {ud : Int32} {ug : Int32} {rr : Int64} {yP : sPar} {yJ : sJou} (hf : f_X0_takeAllFees fu uP uC uJ ut = some (rr, yP, yJ)) : xMl l κ yX0_takeAllFees cX0_takeAllFees 8 (some .long) (xR 5 0 0) [.ref (xAd κ (26 * wa))] (upA wA wa (uP, uC, uD, uJ, ur, ut, ud, ug), wY) (upA wA wa (yP, uC, uD, yJ, ur, ut, ud, ug), wY) rr := by
  unfold f_X0_takeAllFees at hf
  refine xMl_of pn_X0 (Nat.le_of_ble_eq_true rfl) ⟨rfl, rfl⟩ ?_
  intro A p e s m args below meth c ls Q hc hw hl K
  have hc : xC κ A p s m args meth c cX0_takeAllFees RX0 8 (some .long) := hc
  have hx := hc.1.1
  have hb := hc.1.2.1
  have hl : lv_has ls 8 [(0, .ref (xAd κ (26 * wa)))] := hl
  refine lv_lconst (v := 0) hx hb dX0_takeAllFees_0 (by decide) ?_
  refine lv_lstore_n (lv' := [(1, .long 0), (0, .ref (xAd κ (26 * wa)))]) hx hb dX0_takeAllFees_1 rfl hl (by decide) rfl (fun ls hl => ?_)
  refine lv_iconst (v := 0) hx hb dX0_takeAllFees_2 (by decide) ?_
  refine lv_istore_n (lv' := [(3, .int 0), (1, .long 0), (0, .ref (xAd κ (26 * wa)))]) hx hb dX0_takeAllFees_3 rfl hl (by decide) rfl (fun ls hl => ?_)
  exact l_X0_takeAllFees_4 ha hc K fu _ _ _ _ _ _ _ hf hw (lv_sub hl [2, 1, 0] rfl)
def f_X0_returnAll_4 (fu : Nat) (uC : sCla) (ut : xF32) : Nat → (Int64) → (Int32) → (sPar) → (sJou) → Option (Int64 × sPar × sJou)
  | 0, _, _, _, _ => none
  | n + 1, x1, x3, uP, uJ => if uP.1 ≤ x3 then (xb1 (f_X3_addOne fu 7 x1 uJ) fun uJ_2 => (some (x1, uP, uJ_2))) else (xb1 (f_X0_shareOfParty fu x3 uP uC ut) fun v4 => (xk (xin x3 6) (xb1 (f_X4_heldFor x3 uP) fun v7 => (xk (xin x3 6) (xk (xin x3 6) (f_X0_returnAll_4 fu uC ut n (x1 + (xmaxL 0 (v7 - (xmaxL 0 (v4 - (uP.2.2.2.2.2.1 x3.toNatClampNeg)))))) (x3 + 1) (uP.1, uP.2.1, uP.2.2.1, uP.2.2.2.1, uP.2.2.2.2.1, uP.2.2.2.2.2.1, (vp_updL uP.2.2.2.2.2.2 x3.toNatClampNeg ((uP.2.2.2.2.2.2 x3.toNatClampNeg) + (xmaxL 0 (v7 - (xmaxL 0 (v4 - (uP.2.2.2.2.2.1 x3.toNatClampNeg)))))))) uJ))))))
def f_X0_returnAll (fu : Nat) (uP : sPar) (uC : sCla) (uJ : sJou) (ut : xF32) : Option (Int64 × sPar × sJou) :=
  f_X0_returnAll_4 fu uC ut fu 0 0 uP uJ
set_option maxHeartbeats 4000000 in
set_option maxRecDepth 100000 in
theorem l_X0_returnAll_4 {l : Launch} {κ : xKt} {wA : Nat → sAcc} {wa : Nat} {wY : sTxt × sRng × sMai × sRef × sOut} (ha : wa < 9) {fu : Nat} {uC : sCla} {uD : sDeb} {ur : xF32} {ut : xF32} {ud : Int32} {ug : Int32} {A : Nat → Prop} {p : Program} {e : Env} {s : State} {m : MethodId} {args : Array Value} {below : List Frame} {meth : Method} {c : Code} {Q : State → Prop} {rr : Int64} {yP : sPar} {yJ : sJou}
    (hc : xC κ A p s m args meth c cX0_returnAll RX0 8 (some .long))
    (K : ∀ (pc : Nat) (ls : Array Slot) (H : Heap) (locs : List Loc), decode cX0_returnAll pc = .ok (.lreturn, 1) → xW κ A s (upA wA wa (yP, uC, uD, yJ, ur, ut, ud, ug), wY) H locs → W p l e (xR 5 0 0) s m args below meth c H locs 0 0 Q (F0 m pc ls [.long rr])) :
    ∀ (n : Nat) (x1 : Int64) (x3 : Int32) (uP : sPar) (uJ : sJou) (H : Heap) (locs : List Loc) (ls : Array Slot), f_X0_returnAll_4 fu uC ut n x1 x3 uP uJ = some (rr, yP, yJ) → xW κ A s (upA wA wa (uP, uC, uD, uJ, ur, ut, ud, ug), wY) H locs → lv_has ls 8 [(0, .ref (xAd κ (26 * wa))), (1, .long x1), (3, .int x3)] → W p l e (xR 5 0 0) s m args below meth c H locs 0 0 Q (F0 m 4 ls []) := by
  have hx := hc.1.1
  have hb := hc.1.2.1
  intro n
  induction n with
  | zero =>
    intro x1 x3 uP uJ H locs ls hf
    rw [f_X0_returnAll_4] at hf
    cases hf
  | succ n hi =>
    intro x1 x3 uP uJ H locs ls hf hw hl
    rw [f_X0_returnAll_4] at hf
    refine lv_iload_n hx hb dX0_returnAll_4 rfl (lv_at hl 2 rfl) ?_
    refine lv_aload_n hx hb dX0_returnAll_5 rfl (lv_at hl 0 rfl) ?_
    refine x_get (v := .ref (xAd κ (26 * wa + 1))) hc hw (ca_0 ha) fX0_12 rfl dX0_returnAll_6 ?_
    refine x_get (v := .int uP.1) hc hw (ca_1 ha) fX0_64 rfl dX0_returnAll_9 ?_
    refine lv_icmp_ge (tgt := 78) hx hb dX0_returnAll_12 (by decide) (fun c1 => ?_) (fun c1 => ?_)
    · have hf := xif_t c1 hf
      refine lv_aload_n hx hb dX0_returnAll_78 rfl (lv_at hl 0 rfl) ?_
      refine x_get (v := .ref (xAd κ (26 * wa + 21))) hc hw (ca_0 ha) fX0_35 rfl dX0_returnAll_79 ?_
      refine lv_bipush (v := 7) hx hb dX0_returnAll_82 (by decide) ?_
      refine lv_lload_n hx hb dX0_returnAll_84 rfl (lv_at hl 1 rfl) ?_
      obtain ⟨uJ_2, h3, hf⟩ := xb1_of hf
      refine x_callvV (As := [.int 7, .long x1]) (rest := []) (σ' := (upA wA wa (uP, uC, uD, uJ_2, ur, ut, ud, ug), wY)) hc hw hl.1 (m_X3_addOne ha h3) kX0_137 (ca_21 ha) rfl rfl ⟨rfl, rfl⟩ ⟨Nat.le_of_ble_eq_true rfl, Nat.le_of_ble_eq_true rfl⟩ ⟨Nat.zero_le _, Nat.zero_le _⟩ (Nat.le_of_ble_eq_true rfl) dX0_returnAll_85 (fun H locs hw => ?_)
      refine lv_lload_n hx hb dX0_returnAll_88 rfl (lv_at hl 1 rfl) ?_
      cases hf
      exact K _ _ _ _ dX0_returnAll_89 hw
    · have hf := xif_f c1 hf
      refine lv_lconst (v := 0) hx hb dX0_returnAll_15 (by decide) ?_
      refine lv_aload_n hx hb dX0_returnAll_16 rfl (lv_at hl 0 rfl) ?_
      refine lv_iload_n hx hb dX0_returnAll_17 rfl (lv_at hl 2 rfl) ?_
      obtain ⟨v4, h5, hf⟩ := xb1_of hf
      refine x_calllV (As := [.int x3]) (rest := [.long 0]) (σ' := (upA wA wa (uP, uC, uD, uJ, ur, ut, ud, ug), wY)) hc hw hl.1 (m_X0_shareOfParty ha h5) kX0_161 (ca_0 ha) rfl rfl ⟨rfl, rfl⟩ ⟨Nat.le_of_ble_eq_true rfl, Nat.le_of_ble_eq_true rfl⟩ ⟨Nat.zero_le _, Nat.zero_le _⟩ (Nat.le_of_ble_eq_true rfl) dX0_returnAll_18 (fun H locs hw => ?_)
      refine lv_aload_n hx hb dX0_returnAll_21 rfl (lv_at hl 0 rfl) ?_
      refine x_get (v := .ref (xAd κ (26 * wa + 1))) hc hw (ca_0 ha) fX0_12 rfl dX0_returnAll_22 ?_
      refine x_get (v := .ref (xAd κ (26 * wa + 6))) hc hw (ca_1 ha) fX0_164 rfl dX0_returnAll_25 ?_
      refine lv_iload_n hx hb dX0_returnAll_28 rfl (lv_at hl 2 rfl) ?_
      obtain ⟨k6, hf⟩ := xk_of hf
      refine x_lald (n := 6) (f := uP.2.2.2.2.2.1) hc hw (ca_6 ha) k6 dX0_returnAll_29 ?_
      refine lv_lsub hx hb dX0_returnAll_30 ?_
      refine x_maxL hc hl.1 mw_X0_176 ⟨Nat.le_of_ble_eq_true rfl, Nat.le_of_ble_eq_true rfl⟩ ⟨Nat.zero_le _, Nat.zero_le _⟩ dX0_returnAll_31 ?_
      refine lv_lstore (lv' := [(4, .long (xmaxL 0 (v4 - (uP.2.2.2.2.2.1 x3.toNatClampNeg)))), (0, .ref (xAd κ (26 * wa))), (1, .long x1), (3, .int x3)]) hx hb dX0_returnAll_34 hl (by decide) rfl (fun ls hl => ?_)
      refine lv_lconst (v := 0) hx hb dX0_returnAll_36 (by decide) ?_
      refine lv_aload_n hx hb dX0_returnAll_37 rfl (lv_at hl 1 rfl) ?_
      refine x_get (v := .ref (xAd κ (26 * wa + 1))) hc hw (ca_0 ha) fX0_12 rfl dX0_returnAll_38 ?_
      refine lv_iload_n hx hb dX0_returnAll_41 rfl (lv_at hl 3 rfl) ?_
      obtain ⟨v7, h8, hf⟩ := xb1_of hf
      refine x_calllV (As := [.int x3]) (rest := [.long 0]) (σ' := (upA wA wa (uP, uC, uD, uJ, ur, ut, ud, ug), wY)) hc hw hl.1 (m_X4_heldFor ha h8) kX0_167 (ca_1 ha) rfl rfl ⟨rfl, rfl⟩ ⟨Nat.le_of_ble_eq_true rfl, Nat.le_of_ble_eq_true rfl⟩ ⟨Nat.zero_le _, Nat.zero_le _⟩ (Nat.le_of_ble_eq_true rfl) dX0_returnAll_42 (fun H locs hw => ?_)
      refine lv_lload hx hb dX0_returnAll_45 (lv_at hl 0 rfl) ?_
      refine lv_lsub hx hb dX0_returnAll_47 ?_
      refine x_maxL hc hl.1 mw_X0_176 ⟨Nat.le_of_ble_eq_true rfl, Nat.le_of_ble_eq_true rfl⟩ ⟨Nat.zero_le _, Nat.zero_le _⟩ dX0_returnAll_48 ?_
      refine lv_lstore (lv' := [(6, .long (xmaxL 0 (v7 - (xmaxL 0 (v4 - (uP.2.2.2.2.2.1 x3.toNatClampNeg)))))), (4, .long (xmaxL 0 (v4 - (uP.2.2.2.2.2.1 x3.toNatClampNeg)))), (0, .ref (xAd κ (26 * wa))), (1, .long x1), (3, .int x3)]) hx hb dX0_returnAll_51 hl (by decide) rfl (fun ls hl => ?_)
      refine lv_aload_n hx hb dX0_returnAll_53 rfl (lv_at hl 2 rfl) ?_
      refine x_get (v := .ref (xAd κ (26 * wa + 1))) hc hw (ca_0 ha) fX0_12 rfl dX0_returnAll_54 ?_
      refine x_get (v := .ref (xAd κ (26 * wa + 7))) hc hw (ca_1 ha) fX0_179 rfl dX0_returnAll_57 ?_
      refine lv_iload_n hx hb dX0_returnAll_60 rfl (lv_at hl 4 rfl) ?_
      refine lv_dup2_11 hx hb dX0_returnAll_61 rfl rfl ?_
      obtain ⟨k9, hf⟩ := xk_of hf
      refine x_lald (n := 6) (f := uP.2.2.2.2.2.2) hc hw (ca_7 ha) k9 dX0_returnAll_62 ?_
      refine lv_lload hx hb dX0_returnAll_63 (lv_at hl 0 rfl) ?_
      refine lv_ladd hx hb dX0_returnAll_65 ?_
      obtain ⟨k10, hf⟩ := xk_of hf
      refine x_last (n := 6) (f := uP.2.2.2.2.2.2) (σ' := (upA wA wa ((uP.1, uP.2.1, uP.2.2.1, uP.2.2.2.1, uP.2.2.2.2.1, uP.2.2.2.2.2.1, (vp_updL uP.2.2.2.2.2.2 x3.toNatClampNeg ((uP.2.2.2.2.2.2 x3.toNatClampNeg) + (xmaxL 0 (v7 - (xmaxL 0 (v4 - (uP.2.2.2.2.2.1 x3.toNatClampNeg)))))))), uC, uD, uJ, ur, ut, ud, ug), wY)) hc hw (ca_7 ha) k10 (sa_0_6 ha) dX0_returnAll_66 (fun H locs hw => ?_)
      refine lv_lload_n hx hb dX0_returnAll_67 rfl (lv_at hl 3 rfl) ?_
      refine lv_lload hx hb dX0_returnAll_68 (lv_at hl 0 rfl) ?_
      refine lv_ladd hx hb dX0_returnAll_70 ?_
      refine lv_lstore_n (lv' := [(1, .long (x1 + (xmaxL 0 (v7 - (xmaxL 0 (v4 - (uP.2.2.2.2.2.1 x3.toNatClampNeg))))))), (6, .long (xmaxL 0 (v7 - (xmaxL 0 (v4 - (uP.2.2.2.2.2.1 x3.toNatClampNeg)))))), (4, .long (xmaxL 0 (v4 - (uP.2.2.2.2.2.1 x3.toNatClampNeg)))), (0, .ref (xAd κ (26 * wa))), (3, .int x3)]) hx hb dX0_returnAll_71 rfl hl (by decide) rfl (fun ls hl => ?_)
      refine lv_iinc (v := (x3 + 1)) (lv' := [(3, .int (x3 + 1)), (1, .long (x1 + (xmaxL 0 (v7 - (xmaxL 0 (v4 - (uP.2.2.2.2.2.1 x3.toNatClampNeg))))))), (6, .long (xmaxL 0 (v7 - (xmaxL 0 (v4 - (uP.2.2.2.2.2.1 x3.toNatClampNeg)))))), (4, .long (xmaxL 0 (v4 - (uP.2.2.2.2.2.1 x3.toNatClampNeg)))), (0, .ref (xAd κ (26 * wa)))]) hx hb dX0_returnAll_72 hl (k := 4) rfl rfl (by decide) rfl (fun ls hl => ?_)
      refine lv_goto (tgt := 4) hx hb dX0_returnAll_75 (by decide) ?_
      exact hi _ _ _ _ _ _ _ hf hw (lv_sub hl [4, 1, 0] rfl)
set_option maxHeartbeats 4000000 in
set_option maxRecDepth 100000 in
theorem m_X0_returnAll {l : Launch} {κ : xKt} {wA : Nat → sAcc} {wa : Nat} {wY : sTxt × sRng × sMai × sRef × sOut} (ha : wa < 9) {fu : Nat} {uP : sPar} {uC : sCla} {uD : sDeb} {uJ : sJou} {ur : xF32} {ut : xF32} {ud : Int32} {ug : Int32} {rr : Int64} {yP : sPar} {yJ : sJou} (hf : f_X0_returnAll fu uP uC uJ ut = some (rr, yP, yJ)) : xMl l κ yX0_returnAll cX0_returnAll 8 (some .long) (xR 5 0 0) [.ref (xAd κ (26 * wa))] (upA wA wa (uP, uC, uD, uJ, ur, ut, ud, ug), wY) (upA wA wa (yP, uC, uD, yJ, ur, ut, ud, ug), wY) rr := by
  unfold f_X0_returnAll at hf
  refine xMl_of pn_X0 (Nat.le_of_ble_eq_true rfl) ⟨rfl, rfl⟩ ?_
  intro A p e s m args below meth c ls Q hc hw hl K
  have hc : xC κ A p s m args meth c cX0_returnAll RX0 8 (some .long) := hc
  have hx := hc.1.1
  have hb := hc.1.2.1
  have hl : lv_has ls 8 [(0, .ref (xAd κ (26 * wa)))] := hl
  refine lv_lconst (v := 0) hx hb dX0_returnAll_0 (by decide) ?_
  refine lv_lstore_n (lv' := [(1, .long 0), (0, .ref (xAd κ (26 * wa)))]) hx hb dX0_returnAll_1 rfl hl (by decide) rfl (fun ls hl => ?_)
  refine lv_iconst (v := 0) hx hb dX0_returnAll_2 (by decide) ?_
  refine lv_istore_n (lv' := [(3, .int 0), (1, .long 0), (0, .ref (xAd κ (26 * wa)))]) hx hb dX0_returnAll_3 rfl hl (by decide) rfl (fun ls hl => ?_)
  exact l_X0_returnAll_4 ha hc K fu _ _ _ _ _ _ _ hf hw (lv_sub hl [2, 1, 0] rfl)
def f_X0_makeSettlement (fu : Nat) (x1 : Int32) (x2 : Int32) (x3 : Int32) (uD : sDeb) (uJ : sJou) : Option (sDeb × sJou) :=
  xb1 (f_X2_reduce fu x1 x2 x3.toInt64 uD) fun uD_1 => (xb1 (f_X3_addOne fu 8 x3.toInt64 uJ) fun uJ_3 => (some (uD_1, uJ_3)))
set_option maxHeartbeats 4000000 in
set_option maxRecDepth 100000 in
theorem m_X0_makeSettlement {l : Launch} {κ : xKt} {wA : Nat → sAcc} {wa : Nat} {wY : sTxt × sRng × sMai × sRef × sOut} (ha : wa < 9) {fu : Nat} {x1 : Int32} {x2 : Int32} {x3 : Int32} {uP : sPar} {uC : sCla} {uD : sDeb} {uJ : sJou} {ur : xF32} {ut : xF32} {ud : Int32} {ug : Int32} {yD : sDeb} {yJ : sJou} (hf : f_X0_makeSettlement fu x1 x2 x3 uD uJ = some (yD, yJ)) : xMv l κ yX0_makeSettlement cX0_makeSettlement 4 none (xR 2 0 0) [.ref (xAd κ (26 * wa)), .int x1, .int x2, .int x3] (upA wA wa (uP, uC, uD, uJ, ur, ut, ud, ug), wY) (upA wA wa (uP, uC, yD, yJ, ur, ut, ud, ug), wY) := by
  unfold f_X0_makeSettlement at hf
  refine xMv_of pn_X0 (Nat.le_of_ble_eq_true rfl) ⟨rfl, rfl⟩ ?_
  intro A p e s m args below meth c ls Q hc hw hl K
  have hc : xC κ A p s m args meth c cX0_makeSettlement RX0 4 none := hc
  have hx := hc.1.1
  have hb := hc.1.2.1
  have hl : lv_has ls 4 [(0, .ref (xAd κ (26 * wa))), (1, .int x1), (2, .int x2), (3, .int x3)] := hl
  refine lv_aload_n hx hb dX0_makeSettlement_0 rfl (lv_at hl 0 rfl) ?_
  refine x_get (v := .ref (xAd κ (26 * wa + 15))) hc hw (ca_0 ha) fX0_28 rfl dX0_makeSettlement_1 ?_
  refine lv_iload_n hx hb dX0_makeSettlement_4 rfl (lv_at hl 1 rfl) ?_
  refine lv_iload_n hx hb dX0_makeSettlement_5 rfl (lv_at hl 2 rfl) ?_
  refine lv_iload_n hx hb dX0_makeSettlement_6 rfl (lv_at hl 3 rfl) ?_
  refine lv_i2l (v := x3.toInt64) hx hb dX0_makeSettlement_7 rfl ?_
  obtain ⟨uD_1, h2, hf⟩ := xb1_of hf
  refine x_callvV (As := [.int x1, .int x2, .long x3.toInt64]) (rest := []) (σ' := (upA wA wa (uP, uC, uD_1, uJ, ur, ut, ud, ug), wY)) hc hw hl.1 (m_X2_reduce ha h2) kX0_182 (ca_15 ha) rfl rfl ⟨rfl, rfl⟩ ⟨Nat.le_of_ble_eq_true rfl, Nat.le_of_ble_eq_true rfl⟩ ⟨Nat.zero_le _, Nat.zero_le _⟩ (Nat.le_of_ble_eq_true rfl) dX0_makeSettlement_8 (fun H locs hw => ?_)
  refine lv_aload_n hx hb dX0_makeSettlement_11 rfl (lv_at hl 0 rfl) ?_
  refine x_get (v := .ref (xAd κ (26 * wa + 21))) hc hw (ca_0 ha) fX0_35 rfl dX0_makeSettlement_12 ?_
  refine lv_bipush (v := 8) hx hb dX0_makeSettlement_15 (by decide) ?_
  refine lv_iload_n hx hb dX0_makeSettlement_17 rfl (lv_at hl 3 rfl) ?_
  refine lv_i2l (v := x3.toInt64) hx hb dX0_makeSettlement_18 rfl ?_
  obtain ⟨uJ_3, h4, hf⟩ := xb1_of hf
  refine x_callvV (As := [.int 8, .long x3.toInt64]) (rest := []) (σ' := (upA wA wa (uP, uC, uD_1, uJ_3, ur, ut, ud, ug), wY)) hc hw hl.1 (m_X3_addOne ha h4) kX0_137 (ca_21 ha) rfl rfl ⟨rfl, rfl⟩ ⟨Nat.le_of_ble_eq_true rfl, Nat.le_of_ble_eq_true rfl⟩ ⟨Nat.zero_le _, Nat.zero_le _⟩ (Nat.le_of_ble_eq_true rfl) dX0_makeSettlement_19 (fun H locs hw => ?_)
  cases hf
  exact K _ _ _ _ dX0_makeSettlement_22 hw
def f_X0_makeOffset (fu : Nat) (x1 : Int32) (x2 : Int32) (uD : sDeb) (uJ : sJou) : Option (Int64 × sDeb × sJou) :=
  xb1 (f_X2_owedBy fu x1 x2 uD) fun v1 => (xb1 (f_X2_owedBy fu x2 x1 uD) fun v3 => (xb1 (f_X2_reduce fu x1 x2 (xminL v1 v3) uD) fun uD_5 => (xb1 (f_X2_reduce fu x2 x1 (xminL v1 v3) uD_5) fun uD_7 => (xb1 (f_X3_addOne fu 9 (xminL v1 v3) uJ) fun uJ_9 => (some ((xminL v1 v3), uD_7, uJ_9))))))
set_option maxHeartbeats 4000000 in
set_option maxRecDepth 100000 in
theorem m_X0_makeOffset {l : Launch} {κ : xKt} {wA : Nat → sAcc} {wa : Nat} {wY : sTxt × sRng × sMai × sRef × sOut} (ha : wa < 9) {fu : Nat} {x1 : Int32} {x2 : Int32} {uP : sPar} {uC : sCla} {uD : sDeb} {uJ : sJou} {ur : xF32} {ut : xF32} {ud : Int32} {ug : Int32} {rr : Int64} {yD : sDeb} {yJ : sJou} (hf : f_X0_makeOffset fu x1 x2 uD uJ = some (rr, yD, yJ)) : xMl l κ yX0_makeOffset cX0_makeOffset 5 (some .long) (xR 2 0 0) [.ref (xAd κ (26 * wa)), .int x1, .int x2] (upA wA wa (uP, uC, uD, uJ, ur, ut, ud, ug), wY) (upA wA wa (uP, uC, yD, yJ, ur, ut, ud, ug), wY) rr := by
  unfold f_X0_makeOffset at hf
  refine xMl_of pn_X0 (Nat.le_of_ble_eq_true rfl) ⟨rfl, rfl⟩ ?_
  intro A p e s m args below meth c ls Q hc hw hl K
  have hc : xC κ A p s m args meth c cX0_makeOffset RX0 5 (some .long) := hc
  have hx := hc.1.1
  have hb := hc.1.2.1
  have hl : lv_has ls 5 [(0, .ref (xAd κ (26 * wa))), (1, .int x1), (2, .int x2)] := hl
  refine lv_aload_n hx hb dX0_makeOffset_0 rfl (lv_at hl 0 rfl) ?_
  refine x_get (v := .ref (xAd κ (26 * wa + 15))) hc hw (ca_0 ha) fX0_28 rfl dX0_makeOffset_1 ?_
  refine lv_iload_n hx hb dX0_makeOffset_4 rfl (lv_at hl 1 rfl) ?_
  refine lv_iload_n hx hb dX0_makeOffset_5 rfl (lv_at hl 2 rfl) ?_
  obtain ⟨v1, h2, hf⟩ := xb1_of hf
  refine x_calllV (As := [.int x1, .int x2]) (rest := []) (σ' := (upA wA wa (uP, uC, uD, uJ, ur, ut, ud, ug), wY)) hc hw hl.1 (m_X2_owedBy ha h2) kX0_116 (ca_15 ha) rfl rfl ⟨rfl, rfl⟩ ⟨Nat.le_of_ble_eq_true rfl, Nat.le_of_ble_eq_true rfl⟩ ⟨Nat.zero_le _, Nat.zero_le _⟩ (Nat.le_of_ble_eq_true rfl) dX0_makeOffset_6 (fun H locs hw => ?_)
  refine lv_aload_n hx hb dX0_makeOffset_9 rfl (lv_at hl 0 rfl) ?_
  refine x_get (v := .ref (xAd κ (26 * wa + 15))) hc hw (ca_0 ha) fX0_28 rfl dX0_makeOffset_10 ?_
  refine lv_iload_n hx hb dX0_makeOffset_13 rfl (lv_at hl 2 rfl) ?_
  refine lv_iload_n hx hb dX0_makeOffset_14 rfl (lv_at hl 1 rfl) ?_
  obtain ⟨v3, h4, hf⟩ := xb1_of hf
  refine x_calllV (As := [.int x2, .int x1]) (rest := [.long v1]) (σ' := (upA wA wa (uP, uC, uD, uJ, ur, ut, ud, ug), wY)) hc hw hl.1 (m_X2_owedBy ha h4) kX0_116 (ca_15 ha) rfl rfl ⟨rfl, rfl⟩ ⟨Nat.le_of_ble_eq_true rfl, Nat.le_of_ble_eq_true rfl⟩ ⟨Nat.zero_le _, Nat.zero_le _⟩ (Nat.le_of_ble_eq_true rfl) dX0_makeOffset_15 (fun H locs hw => ?_)
  refine x_minL hc hl.1 mw_X0_170 ⟨Nat.le_of_ble_eq_true rfl, Nat.le_of_ble_eq_true rfl⟩ ⟨Nat.zero_le _, Nat.zero_le _⟩ dX0_makeOffset_18 ?_
  refine lv_lstore_n (lv' := [(3, .long (xminL v1 v3)), (0, .ref (xAd κ (26 * wa))), (1, .int x1), (2, .int x2)]) hx hb dX0_makeOffset_21 rfl hl (by decide) rfl (fun ls hl => ?_)
  refine lv_aload_n hx hb dX0_makeOffset_22 rfl (lv_at hl 1 rfl) ?_
  refine x_get (v := .ref (xAd κ (26 * wa + 15))) hc hw (ca_0 ha) fX0_28 rfl dX0_makeOffset_23 ?_
  refine lv_iload_n hx hb dX0_makeOffset_26 rfl (lv_at hl 2 rfl) ?_
  refine lv_iload_n hx hb dX0_makeOffset_27 rfl (lv_at hl 3 rfl) ?_
  refine lv_lload_n hx hb dX0_makeOffset_28 rfl (lv_at hl 0 rfl) ?_
  obtain ⟨uD_5, h6, hf⟩ := xb1_of hf
  refine x_callvV (As := [.int x1, .int x2, .long (xminL v1 v3)]) (rest := []) (σ' := (upA wA wa (uP, uC, uD_5, uJ, ur, ut, ud, ug), wY)) hc hw hl.1 (m_X2_reduce ha h6) kX0_182 (ca_15 ha) rfl rfl ⟨rfl, rfl⟩ ⟨Nat.le_of_ble_eq_true rfl, Nat.le_of_ble_eq_true rfl⟩ ⟨Nat.zero_le _, Nat.zero_le _⟩ (Nat.le_of_ble_eq_true rfl) dX0_makeOffset_29 (fun H locs hw => ?_)
  refine lv_aload_n hx hb dX0_makeOffset_32 rfl (lv_at hl 1 rfl) ?_
  refine x_get (v := .ref (xAd κ (26 * wa + 15))) hc hw (ca_0 ha) fX0_28 rfl dX0_makeOffset_33 ?_
  refine lv_iload_n hx hb dX0_makeOffset_36 rfl (lv_at hl 3 rfl) ?_
  refine lv_iload_n hx hb dX0_makeOffset_37 rfl (lv_at hl 2 rfl) ?_
  refine lv_lload_n hx hb dX0_makeOffset_38 rfl (lv_at hl 0 rfl) ?_
  obtain ⟨uD_7, h8, hf⟩ := xb1_of hf
  refine x_callvV (As := [.int x2, .int x1, .long (xminL v1 v3)]) (rest := []) (σ' := (upA wA wa (uP, uC, uD_7, uJ, ur, ut, ud, ug), wY)) hc hw hl.1 (m_X2_reduce ha h8) kX0_182 (ca_15 ha) rfl rfl ⟨rfl, rfl⟩ ⟨Nat.le_of_ble_eq_true rfl, Nat.le_of_ble_eq_true rfl⟩ ⟨Nat.zero_le _, Nat.zero_le _⟩ (Nat.le_of_ble_eq_true rfl) dX0_makeOffset_39 (fun H locs hw => ?_)
  refine lv_aload_n hx hb dX0_makeOffset_42 rfl (lv_at hl 1 rfl) ?_
  refine x_get (v := .ref (xAd κ (26 * wa + 21))) hc hw (ca_0 ha) fX0_35 rfl dX0_makeOffset_43 ?_
  refine lv_bipush (v := 9) hx hb dX0_makeOffset_46 (by decide) ?_
  refine lv_lload_n hx hb dX0_makeOffset_48 rfl (lv_at hl 0 rfl) ?_
  obtain ⟨uJ_9, h10, hf⟩ := xb1_of hf
  refine x_callvV (As := [.int 9, .long (xminL v1 v3)]) (rest := []) (σ' := (upA wA wa (uP, uC, uD_7, uJ_9, ur, ut, ud, ug), wY)) hc hw hl.1 (m_X3_addOne ha h10) kX0_137 (ca_21 ha) rfl rfl ⟨rfl, rfl⟩ ⟨Nat.le_of_ble_eq_true rfl, Nat.le_of_ble_eq_true rfl⟩ ⟨Nat.zero_le _, Nat.zero_le _⟩ (Nat.le_of_ble_eq_true rfl) dX0_makeOffset_49 (fun H locs hw => ?_)
  refine lv_lload_n hx hb dX0_makeOffset_52 rfl (lv_at hl 0 rfl) ?_
  cases hf
  exact K _ _ _ _ dX0_makeOffset_53 hw
def f_X0_clearRing_65 (fu : Nat) (uG0 : Int32) (uG1 : xF32) : Nat → (Int64) → (Int32) → (sDeb) → Option (Int64 × sDeb)
  | 0, _, _, _ => none
  | n + 1, x2, x4, uD => if uG0 ≤ x4 then (some ((x2 * uG0.toInt64), uD)) else (xk (xin x4 6) (xb1 (f_X5_memberAfter x4 uG0 uG1) fun v9 => (xb1 (f_X2_reduce fu (uG1 x4.toNatClampNeg) v9 x2 uD) fun uD_11 => (f_X0_clearRing_65 fu uG0 uG1 n x2 (x4 + 1) uD_11))))
def f_X0_clearRing_22 (fu : Nat) (uG0 : Int32) (uG1 : xF32) : Nat → (Int64) → (Int32) → (sDeb) → Option (Int64 × sDeb)
  | 0, _, _, _ => none
  | n + 1, x2, x4, uD => if uG0 ≤ x4 then (f_X0_clearRing_65 fu uG0 uG1 fu x2 0 uD) else (xk (xin x4 6) (xb1 (f_X5_memberAfter x4 uG0 uG1) fun v14 => (xb1 (f_X2_owedBy fu (uG1 x4.toNatClampNeg) v14 uD) fun v16 => (f_X0_clearRing_22 fu uG0 uG1 n (xminL x2 v16) (x4 + 1) uD))))
def f_X0_clearRing (fu : Nat) (uD : sDeb) (uG0 : Int32) (uG1 : xF32) : Option (Int64 × sDeb) :=
  xk (xin 0 6) (xb1 (f_X5_memberAfter 0 uG0 uG1) fun v2 => (xb1 (f_X2_owedBy fu (uG1 (0 : Int32).toNatClampNeg) v2 uD) fun v4 => (f_X0_clearRing_22 fu uG0 uG1 fu v4 1 uD)))
set_option maxHeartbeats 4000000 in
set_option maxRecDepth 100000 in
theorem l_X0_clearRing_65 {l : Launch} {κ : xKt} {wA : Nat → sAcc} {wa : Nat} {wT : sTxt} {wZ : sMai × sRef × sOut} (ha : wa < 9) {fu : Nat} {uP : sPar} {uC : sCla} {uJ : sJou} {ur : xF32} {ut : xF32} {ud : Int32} {ug : Int32} {uG0 : Int32} {uG1 : xF32} {uG2 : xF32} {A : Nat → Prop} {p : Program} {e : Env} {s : State} {m : MethodId} {args : Array Value} {below : List Frame} {meth : Method} {c : Code} {Q : State → Prop} {rr : Int64} {yD : sDeb}
    (hc : xC κ A p s m args meth c cX0_clearRing RX0 5 (some .long))
    (K : ∀ (pc : Nat) (ls : Array Slot) (H : Heap) (locs : List Loc), decode cX0_clearRing pc = .ok (.lreturn, 1) → xW κ A s (upA wA wa (uP, uC, yD, uJ, ur, ut, ud, ug), wT, (uG0, uG1, uG2), wZ) H locs → W p l e (xR 2 0 0) s m args below meth c H locs 0 0 Q (F0 m pc ls [.long rr])) :
    ∀ (n : Nat) (x2 : Int64) (x4 : Int32) (uD : sDeb) (H : Heap) (locs : List Loc) (ls : Array Slot), f_X0_clearRing_65 fu uG0 uG1 n x2 x4 uD = some (rr, yD) → xW κ A s (upA wA wa (uP, uC, uD, uJ, ur, ut, ud, ug), wT, (uG0, uG1, uG2), wZ) H locs → lv_has ls 5 [(0, .ref (xAd κ (26 * wa))), (1, .ref (xAd κ 242)), (2, .long x2), (4, .int x4)] → W p l e (xR 2 0 0) s m args below meth c H locs 0 0 Q (F0 m 65 ls []) := by
  have hx := hc.1.1
  have hb := hc.1.2.1
  intro n
  induction n with
  | zero =>
    intro x2 x4 uD H locs ls hf
    rw [f_X0_clearRing_65] at hf
    cases hf
  | succ n hi =>
    intro x2 x4 uD H locs ls hf hw hl
    rw [f_X0_clearRing_65] at hf
    refine lv_iload hx hb dX0_clearRing_65 (lv_at hl 3 rfl) ?_
    refine lv_aload_n hx hb dX0_clearRing_67 rfl (lv_at hl 1 rfl) ?_
    refine x_get (v := .int uG0) hc hw co_242 fX0_190 rfl dX0_clearRing_68 ?_
    refine lv_icmp_ge (tgt := 101) hx hb dX0_clearRing_71 (by decide) (fun c7 => ?_) (fun c7 => ?_)
    · have hf := xif_t c7 hf
      refine lv_lload_n hx hb dX0_clearRing_101 rfl (lv_at hl 2 rfl) ?_
      refine lv_aload_n hx hb dX0_clearRing_102 rfl (lv_at hl 1 rfl) ?_
      refine x_get (v := .int uG0) hc hw co_242 fX0_190 rfl dX0_clearRing_103 ?_
      refine lv_i2l (v := uG0.toInt64) hx hb dX0_clearRing_106 rfl ?_
      refine lv_lmul hx hb dX0_clearRing_107 ?_
      cases hf
      exact K _ _ _ _ dX0_clearRing_108 hw
    · have hf := xif_f c7 hf
      refine lv_aload_n hx hb dX0_clearRing_74 rfl (lv_at hl 0 rfl) ?_
      refine x_get (v := .ref (xAd κ (26 * wa + 15))) hc hw (ca_0 ha) fX0_28 rfl dX0_clearRing_75 ?_
      refine lv_aload_n hx hb dX0_clearRing_78 rfl (lv_at hl 1 rfl) ?_
      refine x_get (v := .ref (xAd κ 243)) hc hw co_242 fX0_197 rfl dX0_clearRing_79 ?_
      refine lv_iload hx hb dX0_clearRing_82 (lv_at hl 3 rfl) ?_
      obtain ⟨k8, hf⟩ := xk_of hf
      refine x_iald (n := 6) (f := uG1) hc hw co_243 k8 dX0_clearRing_84 ?_
      refine lv_aload_n hx hb dX0_clearRing_85 rfl (lv_at hl 1 rfl) ?_
      refine lv_iload hx hb dX0_clearRing_86 (lv_at hl 3 rfl) ?_
      obtain ⟨v9, h10, hf⟩ := xb1_of hf
      refine x_calliV (As := [.int x4]) (rest := [.int (uG1 x4.toNatClampNeg), .ref (xAd κ (26 * wa + 15))]) (σ' := (upA wA wa (uP, uC, uD, uJ, ur, ut, ud, ug), wT, (uG0, uG1, uG2), wZ)) hc hw hl.1 (m_X5_memberAfter h10) kX0_200 co_242 rfl rfl ⟨rfl, rfl⟩ ⟨Nat.le_of_ble_eq_true rfl, Nat.le_of_ble_eq_true rfl⟩ ⟨Nat.zero_le _, Nat.zero_le _⟩ (Nat.le_of_ble_eq_true rfl) dX0_clearRing_88 (fun H locs hw => ?_)
      refine lv_lload_n hx hb dX0_clearRing_91 rfl (lv_at hl 2 rfl) ?_
      obtain ⟨uD_11, h12, hf⟩ := xb1_of hf
      refine x_callvV (As := [.int (uG1 x4.toNatClampNeg), .int v9, .long x2]) (rest := []) (σ' := (upA wA wa (uP, uC, uD_11, uJ, ur, ut, ud, ug), wT, (uG0, uG1, uG2), wZ)) hc hw hl.1 (m_X2_reduce ha h12) kX0_182 (ca_15 ha) rfl rfl ⟨rfl, rfl⟩ ⟨Nat.le_of_ble_eq_true rfl, Nat.le_of_ble_eq_true rfl⟩ ⟨Nat.zero_le _, Nat.zero_le _⟩ (Nat.le_of_ble_eq_true rfl) dX0_clearRing_92 (fun H locs hw => ?_)
      refine lv_iinc (v := (x4 + 1)) (lv' := [(4, .int (x4 + 1)), (0, .ref (xAd κ (26 * wa))), (1, .ref (xAd κ 242)), (2, .long x2)]) hx hb dX0_clearRing_95 hl (k := 3) rfl rfl (by decide) rfl (fun ls hl => ?_)
      refine lv_goto (tgt := 65) hx hb dX0_clearRing_98 (by decide) ?_
      exact hi _ _ _ _ _ _ hf hw (lv_sub hl [1, 2, 3, 0] rfl)
set_option maxHeartbeats 4000000 in
set_option maxRecDepth 100000 in
theorem l_X0_clearRing_22 {l : Launch} {κ : xKt} {wA : Nat → sAcc} {wa : Nat} {wT : sTxt} {wZ : sMai × sRef × sOut} (ha : wa < 9) {fu : Nat} {uP : sPar} {uC : sCla} {uJ : sJou} {ur : xF32} {ut : xF32} {ud : Int32} {ug : Int32} {uG0 : Int32} {uG1 : xF32} {uG2 : xF32} {A : Nat → Prop} {p : Program} {e : Env} {s : State} {m : MethodId} {args : Array Value} {below : List Frame} {meth : Method} {c : Code} {Q : State → Prop} {rr : Int64} {yD : sDeb}
    (hc : xC κ A p s m args meth c cX0_clearRing RX0 5 (some .long))
    (K : ∀ (pc : Nat) (ls : Array Slot) (H : Heap) (locs : List Loc), decode cX0_clearRing pc = .ok (.lreturn, 1) → xW κ A s (upA wA wa (uP, uC, yD, uJ, ur, ut, ud, ug), wT, (uG0, uG1, uG2), wZ) H locs → W p l e (xR 2 0 0) s m args below meth c H locs 0 0 Q (F0 m pc ls [.long rr])) :
    ∀ (n : Nat) (x2 : Int64) (x4 : Int32) (uD : sDeb) (H : Heap) (locs : List Loc) (ls : Array Slot), f_X0_clearRing_22 fu uG0 uG1 n x2 x4 uD = some (rr, yD) → xW κ A s (upA wA wa (uP, uC, uD, uJ, ur, ut, ud, ug), wT, (uG0, uG1, uG2), wZ) H locs → lv_has ls 5 [(0, .ref (xAd κ (26 * wa))), (1, .ref (xAd κ 242)), (2, .long x2), (4, .int x4)] → W p l e (xR 2 0 0) s m args below meth c H locs 0 0 Q (F0 m 22 ls []) := by
  have hx := hc.1.1
  have hb := hc.1.2.1
  intro n
  induction n with
  | zero =>
    intro x2 x4 uD H locs ls hf
    rw [f_X0_clearRing_22] at hf
    cases hf
  | succ n hi =>
    intro x2 x4 uD H locs ls hf hw hl
    rw [f_X0_clearRing_22] at hf
    refine lv_iload hx hb dX0_clearRing_22 (lv_at hl 3 rfl) ?_
    refine lv_aload_n hx hb dX0_clearRing_24 rfl (lv_at hl 1 rfl) ?_
    refine x_get (v := .int uG0) hc hw co_242 fX0_190 rfl dX0_clearRing_25 ?_
    refine lv_icmp_ge (tgt := 62) hx hb dX0_clearRing_28 (by decide) (fun c6 => ?_) (fun c6 => ?_)
    · have hf := xif_t c6 hf
      refine lv_iconst (v := 0) hx hb dX0_clearRing_62 (by decide) ?_
      refine lv_istore (lv' := [(4, .int 0), (0, .ref (xAd κ (26 * wa))), (1, .ref (xAd κ 242)), (2, .long x2)]) hx hb dX0_clearRing_63 hl (by decide) rfl (fun ls hl => ?_)
      exact l_X0_clearRing_65 ha hc K fu _ _ _ _ _ _ hf hw (lv_sub hl [1, 2, 3, 0] rfl)
    · have hf := xif_f c6 hf
      refine lv_lload_n hx hb dX0_clearRing_31 rfl (lv_at hl 2 rfl) ?_
      refine lv_aload_n hx hb dX0_clearRing_32 rfl (lv_at hl 0 rfl) ?_
      refine x_get (v := .ref (xAd κ (26 * wa + 15))) hc hw (ca_0 ha) fX0_28 rfl dX0_clearRing_33 ?_
      refine lv_aload_n hx hb dX0_clearRing_36 rfl (lv_at hl 1 rfl) ?_
      refine x_get (v := .ref (xAd κ 243)) hc hw co_242 fX0_197 rfl dX0_clearRing_37 ?_
      refine lv_iload hx hb dX0_clearRing_40 (lv_at hl 3 rfl) ?_
      obtain ⟨k13, hf⟩ := xk_of hf
      refine x_iald (n := 6) (f := uG1) hc hw co_243 k13 dX0_clearRing_42 ?_
      refine lv_aload_n hx hb dX0_clearRing_43 rfl (lv_at hl 1 rfl) ?_
      refine lv_iload hx hb dX0_clearRing_44 (lv_at hl 3 rfl) ?_
      obtain ⟨v14, h15, hf⟩ := xb1_of hf
      refine x_calliV (As := [.int x4]) (rest := [.int (uG1 x4.toNatClampNeg), .ref (xAd κ (26 * wa + 15)), .long x2]) (σ' := (upA wA wa (uP, uC, uD, uJ, ur, ut, ud, ug), wT, (uG0, uG1, uG2), wZ)) hc hw hl.1 (m_X5_memberAfter h15) kX0_200 co_242 rfl rfl ⟨rfl, rfl⟩ ⟨Nat.le_of_ble_eq_true rfl, Nat.le_of_ble_eq_true rfl⟩ ⟨Nat.zero_le _, Nat.zero_le _⟩ (Nat.le_of_ble_eq_true rfl) dX0_clearRing_46 (fun H locs hw => ?_)
      obtain ⟨v16, h17, hf⟩ := xb1_of hf
      refine x_calllV (As := [.int (uG1 x4.toNatClampNeg), .int v14]) (rest := [.long x2]) (σ' := (upA wA wa (uP, uC, uD, uJ, ur, ut, ud, ug), wT, (uG0, uG1, uG2), wZ)) hc hw hl.1 (m_X2_owedBy ha h17) kX0_116 (ca_15 ha) rfl rfl ⟨rfl, rfl⟩ ⟨Nat.le_of_ble_eq_true rfl, Nat.le_of_ble_eq_true rfl⟩ ⟨Nat.zero_le _, Nat.zero_le _⟩ (Nat.le_of_ble_eq_true rfl) dX0_clearRing_49 (fun H locs hw => ?_)
      refine x_minL hc hl.1 mw_X0_170 ⟨Nat.le_of_ble_eq_true rfl, Nat.le_of_ble_eq_true rfl⟩ ⟨Nat.zero_le _, Nat.zero_le _⟩ dX0_clearRing_52 ?_
      refine lv_lstore_n (lv' := [(2, .long (xminL x2 v16)), (0, .ref (xAd κ (26 * wa))), (1, .ref (xAd κ 242)), (4, .int x4)]) hx hb dX0_clearRing_55 rfl hl (by decide) rfl (fun ls hl => ?_)
      refine lv_iinc (v := (x4 + 1)) (lv' := [(4, .int (x4 + 1)), (2, .long (xminL x2 v16)), (0, .ref (xAd κ (26 * wa))), (1, .ref (xAd κ 242))]) hx hb dX0_clearRing_56 hl (k := 3) rfl rfl (by decide) rfl (fun ls hl => ?_)
      refine lv_goto (tgt := 22) hx hb dX0_clearRing_59 (by decide) ?_
      exact hi _ _ _ _ _ _ hf hw (lv_sub hl [2, 3, 1, 0] rfl)
set_option maxHeartbeats 4000000 in
set_option maxRecDepth 100000 in
theorem m_X0_clearRing {l : Launch} {κ : xKt} {wA : Nat → sAcc} {wa : Nat} {wT : sTxt} {wZ : sMai × sRef × sOut} (ha : wa < 9) {fu : Nat} {uP : sPar} {uC : sCla} {uD : sDeb} {uJ : sJou} {ur : xF32} {ut : xF32} {ud : Int32} {ug : Int32} {uG0 : Int32} {uG1 : xF32} {uG2 : xF32} {rr : Int64} {yD : sDeb} (hf : f_X0_clearRing fu uD uG0 uG1 = some (rr, yD)) : xMl l κ yX0_clearRing cX0_clearRing 5 (some .long) (xR 2 0 0) [.ref (xAd κ (26 * wa)), .ref (xAd κ 242)] (upA wA wa (uP, uC, uD, uJ, ur, ut, ud, ug), wT, (uG0, uG1, uG2), wZ) (upA wA wa (uP, uC, yD, uJ, ur, ut, ud, ug), wT, (uG0, uG1, uG2), wZ) rr := by
  unfold f_X0_clearRing at hf
  refine xMl_of pn_X0 (Nat.le_of_ble_eq_true rfl) ⟨rfl, rfl⟩ ?_
  intro A p e s m args below meth c ls Q hc hw hl K
  have hc : xC κ A p s m args meth c cX0_clearRing RX0 5 (some .long) := hc
  have hx := hc.1.1
  have hb := hc.1.2.1
  have hl : lv_has ls 5 [(0, .ref (xAd κ (26 * wa))), (1, .ref (xAd κ 242))] := hl
  refine lv_aload_n hx hb dX0_clearRing_0 rfl (lv_at hl 0 rfl) ?_
  refine x_get (v := .ref (xAd κ (26 * wa + 15))) hc hw (ca_0 ha) fX0_28 rfl dX0_clearRing_1 ?_
  refine lv_aload_n hx hb dX0_clearRing_4 rfl (lv_at hl 1 rfl) ?_
  refine x_get (v := .ref (xAd κ 243)) hc hw co_242 fX0_197 rfl dX0_clearRing_5 ?_
  refine lv_iconst (v := 0) hx hb dX0_clearRing_8 (by decide) ?_
  obtain ⟨k1, hf⟩ := xk_of hf
  refine x_iald (n := 6) (f := uG1) hc hw co_243 k1 dX0_clearRing_9 ?_
  refine lv_aload_n hx hb dX0_clearRing_10 rfl (lv_at hl 1 rfl) ?_
  refine lv_iconst (v := 0) hx hb dX0_clearRing_11 (by decide) ?_
  obtain ⟨v2, h3, hf⟩ := xb1_of hf
  refine x_calliV (As := [.int 0]) (rest := [.int (uG1 (0 : Int32).toNatClampNeg), .ref (xAd κ (26 * wa + 15))]) (σ' := (upA wA wa (uP, uC, uD, uJ, ur, ut, ud, ug), wT, (uG0, uG1, uG2), wZ)) hc hw hl.1 (m_X5_memberAfter h3) kX0_200 co_242 rfl rfl ⟨rfl, rfl⟩ ⟨Nat.le_of_ble_eq_true rfl, Nat.le_of_ble_eq_true rfl⟩ ⟨Nat.zero_le _, Nat.zero_le _⟩ (Nat.le_of_ble_eq_true rfl) dX0_clearRing_12 (fun H locs hw => ?_)
  obtain ⟨v4, h5, hf⟩ := xb1_of hf
  refine x_calllV (As := [.int (uG1 (0 : Int32).toNatClampNeg), .int v2]) (rest := []) (σ' := (upA wA wa (uP, uC, uD, uJ, ur, ut, ud, ug), wT, (uG0, uG1, uG2), wZ)) hc hw hl.1 (m_X2_owedBy ha h5) kX0_116 (ca_15 ha) rfl rfl ⟨rfl, rfl⟩ ⟨Nat.le_of_ble_eq_true rfl, Nat.le_of_ble_eq_true rfl⟩ ⟨Nat.zero_le _, Nat.zero_le _⟩ (Nat.le_of_ble_eq_true rfl) dX0_clearRing_15 (fun H locs hw => ?_)
  refine lv_lstore_n (lv' := [(2, .long v4), (0, .ref (xAd κ (26 * wa))), (1, .ref (xAd κ 242))]) hx hb dX0_clearRing_18 rfl hl (by decide) rfl (fun ls hl => ?_)
  refine lv_iconst (v := 1) hx hb dX0_clearRing_19 (by decide) ?_
  refine lv_istore (lv' := [(4, .int 1), (2, .long v4), (0, .ref (xAd κ (26 * wa))), (1, .ref (xAd κ 242))]) hx hb dX0_clearRing_20 hl (by decide) rfl (fun ls hl => ?_)
  exact l_X0_clearRing_22 ha hc K fu _ _ _ _ _ _ hf hw (lv_sub hl [2, 3, 1, 0] rfl)
def f_X0_clearAllRings_13 (fu : Nat) : Nat → (Int64) → (Int32) → (sDeb) → (sJou) → (Int32) → (xF32) → (xF32) → Option (Int64 × sDeb × sJou × Int32 × xF32 × xF32)
  | 0, _, _, _, _, _, _, _ => none
  | n + 1, x2, x4, uD, uJ, uG0, uG1, uG2 => if 30 ≤ x4 then (xb1 (f_X3_addOne fu 10 x2 uJ) fun uJ_6 => (some (x2, uD, uJ_6, uG0, uG1, uG2))) else (if uG0 ≤ 0 then (xb1 (f_X3_addOne fu 10 x2 uJ) fun uJ_9 => (some (x2, uD, uJ_9, uG0, uG1, uG2))) else (xb2 (f_X0_clearRing fu uD uG0 uG1) fun v11 uD_12 => (xb3 (f_X5_findFirst fu uD_12 uG0 uG1 uG2) fun uG0_14 uG1_15 uG2_16 => (f_X0_clearAllRings_13 fu n (x2 + v11) (x4 + 1) uD_12 uJ uG0_14 uG1_15 uG2_16))))
def f_X0_clearAllRings (fu : Nat) (uD : sDeb) (uJ : sJou) (uG0 : Int32) (uG1 : xF32) (uG2 : xF32) : Option (Int64 × sDeb × sJou × Int32 × xF32 × xF32) :=
  xb3 (f_X5_findFirst fu uD uG0 uG1 uG2) fun uG0_1 uG1_2 uG2_3 => (f_X0_clearAllRings_13 fu fu 0 0 uD uJ uG0_1 uG1_2 uG2_3)
set_option maxHeartbeats 4000000 in
set_option maxRecDepth 100000 in
theorem l_X0_clearAllRings_13 {l : Launch} {κ : xKt} {wA : Nat → sAcc} {wa : Nat} {wT : sTxt} {wZ : sMai × sRef × sOut} (ha : wa < 9) {fu : Nat} {uP : sPar} {uC : sCla} {ur : xF32} {ut : xF32} {ud : Int32} {ug : Int32} {A : Nat → Prop} {p : Program} {e : Env} {s : State} {m : MethodId} {args : Array Value} {below : List Frame} {meth : Method} {c : Code} {Q : State → Prop} {rr : Int64} {yD : sDeb} {yJ : sJou} {yG0 : Int32} {yG1 : xF32} {yG2 : xF32}
    (hc : xC κ A p s m args meth c cX0_clearAllRings RX0 5 (some .long))
    (K : ∀ (pc : Nat) (ls : Array Slot) (H : Heap) (locs : List Loc), decode cX0_clearAllRings pc = .ok (.lreturn, 1) → xW κ A s (upA wA wa (uP, uC, yD, yJ, ur, ut, ud, ug), wT, (yG0, yG1, yG2), wZ) H locs → W p l e (xR 12 0 0) s m args below meth c H locs 0 0 Q (F0 m pc ls [.long rr])) :
    ∀ (n : Nat) (x2 : Int64) (x4 : Int32) (uD : sDeb) (uJ : sJou) (uG0 : Int32) (uG1 : xF32) (uG2 : xF32) (H : Heap) (locs : List Loc) (ls : Array Slot), f_X0_clearAllRings_13 fu n x2 x4 uD uJ uG0 uG1 uG2 = some (rr, yD, yJ, yG0, yG1, yG2) → xW κ A s (upA wA wa (uP, uC, uD, uJ, ur, ut, ud, ug), wT, (uG0, uG1, uG2), wZ) H locs → lv_has ls 5 [(0, .ref (xAd κ (26 * wa))), (1, .ref (xAd κ 242)), (2, .long x2), (4, .int x4)] → W p l e (xR 12 0 0) s m args below meth c H locs 0 0 Q (F0 m 13 ls []) := by
  have hx := hc.1.1
  have hb := hc.1.2.1
  intro n
  induction n with
  | zero =>
    intro x2 x4 uD uJ uG0 uG1 uG2 H locs ls hf
    rw [f_X0_clearAllRings_13] at hf
    cases hf
  | succ n hi =>
    intro x2 x4 uD uJ uG0 uG1 uG2 H locs ls hf hw hl
    rw [f_X0_clearAllRings_13] at hf
    refine lv_iload hx hb dX0_clearAllRings_13 (lv_at hl 3 rfl) ?_
    refine lv_bipush (v := 30) hx hb dX0_clearAllRings_15 (by decide) ?_
    refine lv_icmp_ge (tgt := 49) hx hb dX0_clearAllRings_17 (by decide) (fun c5 => ?_) (fun c5 => ?_)
    · have hf := xif_t c5 hf
      refine lv_aload_n hx hb dX0_clearAllRings_49 rfl (lv_at hl 0 rfl) ?_
      refine x_get (v := .ref (xAd κ (26 * wa + 21))) hc hw (ca_0 ha) fX0_35 rfl dX0_clearAllRings_50 ?_
      refine lv_bipush (v := 10) hx hb dX0_clearAllRings_53 (by decide) ?_
      refine lv_lload_n hx hb dX0_clearAllRings_55 rfl (lv_at hl 2 rfl) ?_
      obtain ⟨uJ_6, h7, hf⟩ := xb1_of hf
      refine x_callvV (As := [.int 10, .long x2]) (rest := []) (σ' := (upA wA wa (uP, uC, uD, uJ_6, ur, ut, ud, ug), wT, (uG0, uG1, uG2), wZ)) hc hw hl.1 (m_X3_addOne ha h7) kX0_137 (ca_21 ha) rfl rfl ⟨rfl, rfl⟩ ⟨Nat.le_of_ble_eq_true rfl, Nat.le_of_ble_eq_true rfl⟩ ⟨Nat.zero_le _, Nat.zero_le _⟩ (Nat.le_of_ble_eq_true rfl) dX0_clearAllRings_56 (fun H locs hw => ?_)
      refine lv_lload_n hx hb dX0_clearAllRings_59 rfl (lv_at hl 2 rfl) ?_
      cases hf
      exact K _ _ _ _ dX0_clearAllRings_60 hw
    · have hf := xif_f c5 hf
      refine lv_aload_n hx hb dX0_clearAllRings_20 rfl (lv_at hl 1 rfl) ?_
      refine x_get (v := .int uG0) hc hw co_242 fX0_190 rfl dX0_clearAllRings_21 ?_
      refine lv_if_le (tgt := 49) hx hb dX0_clearAllRings_24 (by decide) (fun c8 => ?_) (fun c8 => ?_)
      · have hf := xif_t c8 hf
        refine lv_aload_n hx hb dX0_clearAllRings_49 rfl (lv_at hl 0 rfl) ?_
        refine x_get (v := .ref (xAd κ (26 * wa + 21))) hc hw (ca_0 ha) fX0_35 rfl dX0_clearAllRings_50 ?_
        refine lv_bipush (v := 10) hx hb dX0_clearAllRings_53 (by decide) ?_
        refine lv_lload_n hx hb dX0_clearAllRings_55 rfl (lv_at hl 2 rfl) ?_
        obtain ⟨uJ_9, h10, hf⟩ := xb1_of hf
        refine x_callvV (As := [.int 10, .long x2]) (rest := []) (σ' := (upA wA wa (uP, uC, uD, uJ_9, ur, ut, ud, ug), wT, (uG0, uG1, uG2), wZ)) hc hw hl.1 (m_X3_addOne ha h10) kX0_137 (ca_21 ha) rfl rfl ⟨rfl, rfl⟩ ⟨Nat.le_of_ble_eq_true rfl, Nat.le_of_ble_eq_true rfl⟩ ⟨Nat.zero_le _, Nat.zero_le _⟩ (Nat.le_of_ble_eq_true rfl) dX0_clearAllRings_56 (fun H locs hw => ?_)
        refine lv_lload_n hx hb dX0_clearAllRings_59 rfl (lv_at hl 2 rfl) ?_
        cases hf
        exact K _ _ _ _ dX0_clearAllRings_60 hw
      · have hf := xif_f c8 hf
        refine lv_lload_n hx hb dX0_clearAllRings_27 rfl (lv_at hl 2 rfl) ?_
        refine lv_aload_n hx hb dX0_clearAllRings_28 rfl (lv_at hl 0 rfl) ?_
        refine lv_aload_n hx hb dX0_clearAllRings_29 rfl (lv_at hl 1 rfl) ?_
        obtain ⟨v11, uD_12, h13, hf⟩ := xb2_of hf
        refine x_calllV (As := [.ref (xAd κ 242)]) (rest := [.long x2]) (σ' := (upA wA wa (uP, uC, uD_12, uJ, ur, ut, ud, ug), wT, (uG0, uG1, uG2), wZ)) hc hw hl.1 (m_X0_clearRing ha h13) kX0_193 (ca_0 ha) rfl rfl ⟨rfl, rfl⟩ ⟨Nat.le_of_ble_eq_true rfl, Nat.le_of_ble_eq_true rfl⟩ ⟨Nat.zero_le _, Nat.zero_le _⟩ (Nat.le_of_ble_eq_true rfl) dX0_clearAllRings_30 (fun H locs hw => ?_)
        refine lv_ladd hx hb dX0_clearAllRings_33 ?_
        refine lv_lstore_n (lv' := [(2, .long (x2 + v11)), (0, .ref (xAd κ (26 * wa))), (1, .ref (xAd κ 242)), (4, .int x4)]) hx hb dX0_clearAllRings_34 rfl hl (by decide) rfl (fun ls hl => ?_)
        refine lv_aload_n hx hb dX0_clearAllRings_35 rfl (lv_at hl 2 rfl) ?_
        refine lv_aload_n hx hb dX0_clearAllRings_36 rfl (lv_at hl 1 rfl) ?_
        refine x_get (v := .ref (xAd κ (26 * wa + 15))) hc hw (ca_0 ha) fX0_28 rfl dX0_clearAllRings_37 ?_
        obtain ⟨uG0_14, uG1_15, uG2_16, h17, hf⟩ := xb3_of hf
        refine x_callvV (As := [.ref (xAd κ (26 * wa + 15))]) (rest := []) (σ' := (upA wA wa (uP, uC, uD_12, uJ, ur, ut, ud, ug), wT, (uG0_14, uG1_15, uG2_16), wZ)) hc hw hl.1 (m_X5_findFirst ha h17) kX0_185 co_242 rfl rfl ⟨rfl, rfl⟩ ⟨Nat.le_of_ble_eq_true rfl, Nat.le_of_ble_eq_true rfl⟩ ⟨Nat.zero_le _, Nat.zero_le _⟩ (Nat.le_of_ble_eq_true rfl) dX0_clearAllRings_40 (fun H locs hw => ?_)
        refine lv_iinc (v := (x4 + 1)) (lv' := [(4, .int (x4 + 1)), (2, .long (x2 + v11)), (0, .ref (xAd κ (26 * wa))), (1, .ref (xAd κ 242))]) hx hb dX0_clearAllRings_43 hl (k := 3) rfl rfl (by decide) rfl (fun ls hl => ?_)
        refine lv_goto (tgt := 13) hx hb dX0_clearAllRings_46 (by decide) ?_
        exact hi _ _ _ _ _ _ _ _ _ _ hf hw (lv_sub hl [2, 3, 1, 0] rfl)
set_option maxHeartbeats 4000000 in
set_option maxRecDepth 100000 in
theorem m_X0_clearAllRings {l : Launch} {κ : xKt} {wA : Nat → sAcc} {wa : Nat} {wT : sTxt} {wZ : sMai × sRef × sOut} (ha : wa < 9) {fu : Nat} {uP : sPar} {uC : sCla} {uD : sDeb} {uJ : sJou} {ur : xF32} {ut : xF32} {ud : Int32} {ug : Int32} {uG0 : Int32} {uG1 : xF32} {uG2 : xF32} {rr : Int64} {yD : sDeb} {yJ : sJou} {yG0 : Int32} {yG1 : xF32} {yG2 : xF32} (hf : f_X0_clearAllRings fu uD uJ uG0 uG1 uG2 = some (rr, yD, yJ, yG0, yG1, yG2)) : xMl l κ yX0_clearAllRings cX0_clearAllRings 5 (some .long) (xR 12 0 0) [.ref (xAd κ (26 * wa)), .ref (xAd κ 242)] (upA wA wa (uP, uC, uD, uJ, ur, ut, ud, ug), wT, (uG0, uG1, uG2), wZ) (upA wA wa (uP, uC, yD, yJ, ur, ut, ud, ug), wT, (yG0, yG1, yG2), wZ) rr := by
  unfold f_X0_clearAllRings at hf
  refine xMl_of pn_X0 (Nat.le_of_ble_eq_true rfl) ⟨rfl, rfl⟩ ?_
  intro A p e s m args below meth c ls Q hc hw hl K
  have hc : xC κ A p s m args meth c cX0_clearAllRings RX0 5 (some .long) := hc
  have hx := hc.1.1
  have hb := hc.1.2.1
  have hl : lv_has ls 5 [(0, .ref (xAd κ (26 * wa))), (1, .ref (xAd κ 242))] := hl
  refine lv_lconst (v := 0) hx hb dX0_clearAllRings_0 (by decide) ?_
  refine lv_lstore_n (lv' := [(2, .long 0), (0, .ref (xAd κ (26 * wa))), (1, .ref (xAd κ 242))]) hx hb dX0_clearAllRings_1 rfl hl (by decide) rfl (fun ls hl => ?_)
  refine lv_aload_n hx hb dX0_clearAllRings_2 rfl (lv_at hl 2 rfl) ?_
  refine lv_aload_n hx hb dX0_clearAllRings_3 rfl (lv_at hl 1 rfl) ?_
  refine x_get (v := .ref (xAd κ (26 * wa + 15))) hc hw (ca_0 ha) fX0_28 rfl dX0_clearAllRings_4 ?_
  obtain ⟨uG0_1, uG1_2, uG2_3, h4, hf⟩ := xb3_of hf
  refine x_callvV (As := [.ref (xAd κ (26 * wa + 15))]) (rest := []) (σ' := (upA wA wa (uP, uC, uD, uJ, ur, ut, ud, ug), wT, (uG0_1, uG1_2, uG2_3), wZ)) hc hw hl.1 (m_X5_findFirst ha h4) kX0_185 co_242 rfl rfl ⟨rfl, rfl⟩ ⟨Nat.le_of_ble_eq_true rfl, Nat.le_of_ble_eq_true rfl⟩ ⟨Nat.zero_le _, Nat.zero_le _⟩ (Nat.le_of_ble_eq_true rfl) dX0_clearAllRings_7 (fun H locs hw => ?_)
  refine lv_iconst (v := 0) hx hb dX0_clearAllRings_10 (by decide) ?_
  refine lv_istore (lv' := [(4, .int 0), (2, .long 0), (0, .ref (xAd κ (26 * wa))), (1, .ref (xAd κ 242))]) hx hb dX0_clearAllRings_11 hl (by decide) rfl (fun ls hl => ?_)
  exact l_X0_clearAllRings_13 ha hc K fu _ _ _ _ _ _ _ _ _ _ hf hw (lv_sub hl [2, 3, 1, 0] rfl)
def f_X0_letDaysPass (fu : Nat) (x1 : Int32) (uD : sDeb) (ur : xF32) (ud : Int32) (ug : Int32) : Option (Int64 × sDeb × Int32) :=
  xk (xin ug 4) (xb2 (f_X2_addInterest fu x1 (ur ug.toNatClampNeg) uD) fun v2 uD_3 => (some (v2, uD_3, (ud + x1))))
set_option maxHeartbeats 4000000 in
set_option maxRecDepth 100000 in
theorem m_X0_letDaysPass {l : Launch} {κ : xKt} {wA : Nat → sAcc} {wa : Nat} {wY : sTxt × sRng × sMai × sRef × sOut} (ha : wa < 9) {fu : Nat} {x1 : Int32} {uP : sPar} {uC : sCla} {uD : sDeb} {uJ : sJou} {ur : xF32} {ut : xF32} {ud : Int32} {ug : Int32} {rr : Int64} {yD : sDeb} {yd : Int32} (hf : f_X0_letDaysPass fu x1 uD ur ud ug = some (rr, yD, yd)) : xMl l κ yX0_letDaysPass cX0_letDaysPass 2 (some .long) (xR 1 0 0) [.ref (xAd κ (26 * wa)), .int x1] (upA wA wa (uP, uC, uD, uJ, ur, ut, ud, ug), wY) (upA wA wa (uP, uC, yD, uJ, ur, ut, yd, ug), wY) rr := by
  unfold f_X0_letDaysPass at hf
  refine xMl_of pn_X0 (Nat.le_of_ble_eq_true rfl) ⟨rfl, rfl⟩ ?_
  intro A p e s m args below meth c ls Q hc hw hl K
  have hc : xC κ A p s m args meth c cX0_letDaysPass RX0 2 (some .long) := hc
  have hx := hc.1.1
  have hb := hc.1.2.1
  have hl : lv_has ls 2 [(0, .ref (xAd κ (26 * wa))), (1, .int x1)] := hl
  refine lv_aload_n hx hb dX0_letDaysPass_0 rfl (lv_at hl 0 rfl) ?_
  refine lv_dup hx hb dX0_letDaysPass_1 rfl ?_
  refine x_get (v := .int ud) hc hw (ca_0 ha) fX0_57 rfl dX0_letDaysPass_2 ?_
  refine lv_iload_n hx hb dX0_letDaysPass_5 rfl (lv_at hl 1 rfl) ?_
  refine lv_iadd hx hb dX0_letDaysPass_6 ?_
  refine x_put (σ' := (upA wA wa (uP, uC, uD, uJ, ur, ut, (ud + x1), ug), wY)) hc hw (ca_0 ha) fX0_57 rfl rfl (Nat.le_of_ble_eq_true rfl) (sa_6_0 ha) dX0_letDaysPass_7 (fun H locs hw => ?_)
  refine lv_aload_n hx hb dX0_letDaysPass_10 rfl (lv_at hl 0 rfl) ?_
  refine x_get (v := .ref (xAd κ (26 * wa + 15))) hc hw (ca_0 ha) fX0_28 rfl dX0_letDaysPass_11 ?_
  refine lv_iload_n hx hb dX0_letDaysPass_14 rfl (lv_at hl 1 rfl) ?_
  refine lv_aload_n hx hb dX0_letDaysPass_15 rfl (lv_at hl 0 rfl) ?_
  refine x_get (v := .ref (xAd κ (26 * wa + 24))) hc hw (ca_0 ha) fX0_48 rfl dX0_letDaysPass_16 ?_
  refine lv_aload_n hx hb dX0_letDaysPass_19 rfl (lv_at hl 0 rfl) ?_
  refine x_get (v := .int ug) hc hw (ca_0 ha) fX0_61 rfl dX0_letDaysPass_20 ?_
  obtain ⟨k1, hf⟩ := xk_of hf
  refine x_iald (n := 4) (f := ur) hc hw (ca_24 ha) k1 dX0_letDaysPass_23 ?_
  obtain ⟨v2, uD_3, h4, hf⟩ := xb2_of hf
  refine x_calllV (As := [.int x1, .int (ur ug.toNatClampNeg)]) (rest := []) (σ' := (upA wA wa (uP, uC, uD_3, uJ, ur, ut, (ud + x1), ug), wY)) hc hw hl.1 (m_X2_addInterest ha h4) kX0_203 (ca_15 ha) rfl rfl ⟨rfl, rfl⟩ ⟨Nat.le_of_ble_eq_true rfl, Nat.le_of_ble_eq_true rfl⟩ ⟨Nat.zero_le _, Nat.zero_le _⟩ (Nat.le_of_ble_eq_true rfl) dX0_letDaysPass_24 (fun H locs hw => ?_)
  cases hf
  exact K _ _ _ _ dX0_letDaysPass_27 hw
def f_X0_enterNextStage (ug : Int32) : Option Int32 :=
  some ((ug + 1))
set_option maxHeartbeats 4000000 in
set_option maxRecDepth 100000 in
theorem m_X0_enterNextStage {l : Launch} {κ : xKt} {wA : Nat → sAcc} {wa : Nat} {wY : sTxt × sRng × sMai × sRef × sOut} (ha : wa < 9)  {uP : sPar} {uC : sCla} {uD : sDeb} {uJ : sJou} {ur : xF32} {ut : xF32} {ud : Int32} {ug : Int32} {yg : Int32} (hf : f_X0_enterNextStage ug = some yg) : xMv l κ yX0_enterNextStage cX0_enterNextStage 1 none (xR 0 0 0) [.ref (xAd κ (26 * wa))] (upA wA wa (uP, uC, uD, uJ, ur, ut, ud, ug), wY) (upA wA wa (uP, uC, uD, uJ, ur, ut, ud, yg), wY) := by
  unfold f_X0_enterNextStage at hf
  refine xMv_of pn_X0 (Nat.le_of_ble_eq_true rfl) ⟨rfl, rfl⟩ ?_
  intro A p e s m args below meth c ls Q hc hw hl K
  have hc : xC κ A p s m args meth c cX0_enterNextStage RX0 1 none := hc
  have hx := hc.1.1
  have hb := hc.1.2.1
  have hl : lv_has ls 1 [(0, .ref (xAd κ (26 * wa)))] := hl
  refine lv_aload_n hx hb dX0_enterNextStage_0 rfl (lv_at hl 0 rfl) ?_
  refine lv_dup hx hb dX0_enterNextStage_1 rfl ?_
  refine x_get (v := .int ug) hc hw (ca_0 ha) fX0_61 rfl dX0_enterNextStage_2 ?_
  refine lv_iconst (v := 1) hx hb dX0_enterNextStage_5 (by decide) ?_
  refine lv_iadd hx hb dX0_enterNextStage_6 ?_
  refine x_put (σ' := (upA wA wa (uP, uC, uD, uJ, ur, ut, ud, (ug + 1)), wY)) hc hw (ca_0 ha) fX0_61 rfl rfl (Nat.le_of_ble_eq_true rfl) (sa_7_0 ha) dX0_enterNextStage_7 (fun H locs hw => ?_)
  cases hf
  exact K _ _ _ _ dX0_enterNextStage_10 hw
def f_X0_awardedTo_5 (fu : Nat) (uP : sPar) (uC : sCla) : Nat → (Int32) → (Int64) → (Int32) → Option Int64
  | 0, _, _, _ => none
  | n + 1, x1, x2, x4 => if uC.1 ≤ x4 then (some x2) else (xb1 (f_X0_isClaimOf x4 x1 uP uC) fun v2 => (if v2 = 0 then (f_X0_awardedTo_5 fu uP uC n x1 (x2 + 0) (x4 + 1)) else (xk (xin x4 12) (f_X0_awardedTo_5 fu uP uC n x1 (x2 + (uC.2.2.2.2.1 x4.toNatClampNeg).toInt64) (x4 + 1)))))
def f_X0_awardedTo (fu : Nat) (x1 : Int32) (uP : sPar) (uC : sCla) : Option Int64 :=
  f_X0_awardedTo_5 fu uP uC fu x1 0 0
set_option maxHeartbeats 4000000 in
set_option maxRecDepth 100000 in
theorem l_X0_awardedTo_5 {l : Launch} {κ : xKt} {wA : Nat → sAcc} {wa : Nat} {wY : sTxt × sRng × sMai × sRef × sOut} (ha : wa < 9) {fu : Nat} {uP : sPar} {uC : sCla} {uD : sDeb} {uJ : sJou} {ur : xF32} {ut : xF32} {ud : Int32} {ug : Int32} {A : Nat → Prop} {p : Program} {e : Env} {s : State} {m : MethodId} {args : Array Value} {below : List Frame} {meth : Method} {c : Code} {Q : State → Prop} {rr : Int64}
    (hc : xC κ A p s m args meth c cX0_awardedTo RX0 5 (some .long))
    (K : ∀ (pc : Nat) (ls : Array Slot) (H : Heap) (locs : List Loc), decode cX0_awardedTo pc = .ok (.lreturn, 1) → xW κ A s (upA wA wa (uP, uC, uD, uJ, ur, ut, ud, ug), wY) H locs → W p l e (xR 1 0 0) s m args below meth c H locs 0 0 Q (F0 m pc ls [.long rr])) :
    ∀ (n : Nat) (x1 : Int32) (x2 : Int64) (x4 : Int32) (H : Heap) (locs : List Loc) (ls : Array Slot), f_X0_awardedTo_5 fu uP uC n x1 x2 x4 = some rr → xW κ A s (upA wA wa (uP, uC, uD, uJ, ur, ut, ud, ug), wY) H locs → lv_has ls 5 [(0, .ref (xAd κ (26 * wa))), (1, .int x1), (2, .long x2), (4, .int x4)] → W p l e (xR 1 0 0) s m args below meth c H locs 0 0 Q (F0 m 5 ls []) := by
  have hx := hc.1.1
  have hb := hc.1.2.1
  intro n
  induction n with
  | zero =>
    intro x1 x2 x4 H locs ls hf
    rw [f_X0_awardedTo_5] at hf
    cases hf
  | succ n hi =>
    intro x1 x2 x4 H locs ls hf hw hl
    rw [f_X0_awardedTo_5] at hf
    refine lv_iload hx hb dX0_awardedTo_5 (lv_at hl 3 rfl) ?_
    refine lv_aload_n hx hb dX0_awardedTo_7 rfl (lv_at hl 0 rfl) ?_
    refine x_get (v := .ref (xAd κ (26 * wa + 8))) hc hw (ca_0 ha) fX0_21 rfl dX0_awardedTo_8 ?_
    refine x_get (v := .int uC.1) hc hw (ca_8 ha) fX0_67 rfl dX0_awardedTo_11 ?_
    refine lv_icmp_ge (tgt := 51) hx hb dX0_awardedTo_14 (by decide) (fun c1 => ?_) (fun c1 => ?_)
    · have hf := xif_t c1 hf
      refine lv_lload_n hx hb dX0_awardedTo_51 rfl (lv_at hl 2 rfl) ?_
      cases hf
      exact K _ _ _ _ dX0_awardedTo_52 hw
    · have hf := xif_f c1 hf
      refine lv_lload_n hx hb dX0_awardedTo_17 rfl (lv_at hl 2 rfl) ?_
      refine lv_aload_n hx hb dX0_awardedTo_18 rfl (lv_at hl 0 rfl) ?_
      refine lv_iload hx hb dX0_awardedTo_19 (lv_at hl 3 rfl) ?_
      refine lv_iload_n hx hb dX0_awardedTo_21 rfl (lv_at hl 1 rfl) ?_
      obtain ⟨v2, h3, hf⟩ := xb1_of hf
      refine x_calliV (As := [.int x4, .int x1]) (rest := [.long x2]) (σ' := (upA wA wa (uP, uC, uD, uJ, ur, ut, ud, ug), wY)) hc hw hl.1 (m_X0_isClaimOf ha h3) kX0_224 (ca_0 ha) rfl rfl ⟨rfl, rfl⟩ ⟨Nat.le_of_ble_eq_true rfl, Nat.le_of_ble_eq_true rfl⟩ ⟨Nat.zero_le _, Nat.zero_le _⟩ (Nat.le_of_ble_eq_true rfl) dX0_awardedTo_22 (fun H locs hw => ?_)
      refine lv_if_eq (tgt := 42) hx hb dX0_awardedTo_25 (by decide) (fun c4 => ?_) (fun c4 => ?_)
      · have hf := xif_t c4 hf
        refine lv_lconst (v := 0) hx hb dX0_awardedTo_42 (by decide) ?_
        refine lv_ladd hx hb dX0_awardedTo_43 ?_
        refine lv_lstore_n (lv' := [(2, .long (x2 + 0)), (0, .ref (xAd κ (26 * wa))), (1, .int x1), (4, .int x4)]) hx hb dX0_awardedTo_44 rfl hl (by decide) rfl (fun ls hl => ?_)
        refine lv_iinc (v := (x4 + 1)) (lv' := [(4, .int (x4 + 1)), (2, .long (x2 + 0)), (0, .ref (xAd κ (26 * wa))), (1, .int x1)]) hx hb dX0_awardedTo_45 hl (k := 3) rfl rfl (by decide) rfl (fun ls hl => ?_)
        refine lv_goto (tgt := 5) hx hb dX0_awardedTo_48 (by decide) ?_
        exact hi _ _ _ _ _ _ hf hw (lv_sub hl [2, 3, 1, 0] rfl)
      · have hf := xif_f c4 hf
        refine lv_aload_n hx hb dX0_awardedTo_28 rfl (lv_at hl 0 rfl) ?_
        refine x_get (v := .ref (xAd κ (26 * wa + 8))) hc hw (ca_0 ha) fX0_21 rfl dX0_awardedTo_29 ?_
        refine x_get (v := .ref (xAd κ (26 * wa + 12))) hc hw (ca_8 ha) fX0_124 rfl dX0_awardedTo_32 ?_
        refine lv_iload hx hb dX0_awardedTo_35 (lv_at hl 3 rfl) ?_
        obtain ⟨k5, hf⟩ := xk_of hf
        refine x_iald (n := 12) (f := uC.2.2.2.2.1) hc hw (ca_12 ha) k5 dX0_awardedTo_37 ?_
        refine lv_i2l (v := (uC.2.2.2.2.1 x4.toNatClampNeg).toInt64) hx hb dX0_awardedTo_38 rfl ?_
        refine lv_goto (tgt := 43) hx hb dX0_awardedTo_39 (by decide) ?_
        refine lv_ladd hx hb dX0_awardedTo_43 ?_
        refine lv_lstore_n (lv' := [(2, .long (x2 + (uC.2.2.2.2.1 x4.toNatClampNeg).toInt64)), (0, .ref (xAd κ (26 * wa))), (1, .int x1), (4, .int x4)]) hx hb dX0_awardedTo_44 rfl hl (by decide) rfl (fun ls hl => ?_)
        refine lv_iinc (v := (x4 + 1)) (lv' := [(4, .int (x4 + 1)), (2, .long (x2 + (uC.2.2.2.2.1 x4.toNatClampNeg).toInt64)), (0, .ref (xAd κ (26 * wa))), (1, .int x1)]) hx hb dX0_awardedTo_45 hl (k := 3) rfl rfl (by decide) rfl (fun ls hl => ?_)
        refine lv_goto (tgt := 5) hx hb dX0_awardedTo_48 (by decide) ?_
        exact hi _ _ _ _ _ _ hf hw (lv_sub hl [2, 3, 1, 0] rfl)
set_option maxHeartbeats 4000000 in
set_option maxRecDepth 100000 in
theorem m_X0_awardedTo {l : Launch} {κ : xKt} {wA : Nat → sAcc} {wa : Nat} {wY : sTxt × sRng × sMai × sRef × sOut} (ha : wa < 9) {fu : Nat} {x1 : Int32} {uP : sPar} {uC : sCla} {uD : sDeb} {uJ : sJou} {ur : xF32} {ut : xF32} {ud : Int32} {ug : Int32} {rr : Int64} (hf : f_X0_awardedTo fu x1 uP uC = some rr) : xMl l κ yX0_awardedTo cX0_awardedTo 5 (some .long) (xR 1 0 0) [.ref (xAd κ (26 * wa)), .int x1] (upA wA wa (uP, uC, uD, uJ, ur, ut, ud, ug), wY) (upA wA wa (uP, uC, uD, uJ, ur, ut, ud, ug), wY) rr := by
  unfold f_X0_awardedTo at hf
  refine xMl_of pn_X0 (Nat.le_of_ble_eq_true rfl) ⟨rfl, rfl⟩ ?_
  intro A p e s m args below meth c ls Q hc hw hl K
  have hc : xC κ A p s m args meth c cX0_awardedTo RX0 5 (some .long) := hc
  have hx := hc.1.1
  have hb := hc.1.2.1
  have hl : lv_has ls 5 [(0, .ref (xAd κ (26 * wa))), (1, .int x1)] := hl
  refine lv_lconst (v := 0) hx hb dX0_awardedTo_0 (by decide) ?_
  refine lv_lstore_n (lv' := [(2, .long 0), (0, .ref (xAd κ (26 * wa))), (1, .int x1)]) hx hb dX0_awardedTo_1 rfl hl (by decide) rfl (fun ls hl => ?_)
  refine lv_iconst (v := 0) hx hb dX0_awardedTo_2 (by decide) ?_
  refine lv_istore (lv' := [(4, .int 0), (2, .long 0), (0, .ref (xAd κ (26 * wa))), (1, .int x1)]) hx hb dX0_awardedTo_3 hl (by decide) rfl (fun ls hl => ?_)
  exact l_X0_awardedTo_5 ha hc K fu _ _ _ _ _ _ hf hw (lv_sub hl [2, 3, 1, 0] rfl)
def f_X0_soughtBy_5 (fu : Nat) (uP : sPar) (uC : sCla) : Nat → (Int32) → (Int64) → (Int32) → Option Int64
  | 0, _, _, _ => none
  | n + 1, x1, x2, x4 => if uC.1 ≤ x4 then (some x2) else (xb1 (f_X0_isClaimOf x4 x1 uP uC) fun v2 => (if v2 = 0 then (f_X0_soughtBy_5 fu uP uC n x1 (x2 + 0) (x4 + 1)) else (xk (xin x4 12) (xk (xin x4 12) (f_X0_soughtBy_5 fu uP uC n x1 (x2 + ((uC.2.2.2.1 x4.toNatClampNeg) - (uC.2.2.2.2.2.2 x4.toNatClampNeg)).toInt64) (x4 + 1))))))
def f_X0_soughtBy (fu : Nat) (x1 : Int32) (uP : sPar) (uC : sCla) : Option Int64 :=
  f_X0_soughtBy_5 fu uP uC fu x1 0 0
set_option maxHeartbeats 4000000 in
set_option maxRecDepth 100000 in
theorem l_X0_soughtBy_5 {l : Launch} {κ : xKt} {wA : Nat → sAcc} {wa : Nat} {wY : sTxt × sRng × sMai × sRef × sOut} (ha : wa < 9) {fu : Nat} {uP : sPar} {uC : sCla} {uD : sDeb} {uJ : sJou} {ur : xF32} {ut : xF32} {ud : Int32} {ug : Int32} {A : Nat → Prop} {p : Program} {e : Env} {s : State} {m : MethodId} {args : Array Value} {below : List Frame} {meth : Method} {c : Code} {Q : State → Prop} {rr : Int64}
    (hc : xC κ A p s m args meth c cX0_soughtBy RX0 5 (some .long))
    (K : ∀ (pc : Nat) (ls : Array Slot) (H : Heap) (locs : List Loc), decode cX0_soughtBy pc = .ok (.lreturn, 1) → xW κ A s (upA wA wa (uP, uC, uD, uJ, ur, ut, ud, ug), wY) H locs → W p l e (xR 1 0 0) s m args below meth c H locs 0 0 Q (F0 m pc ls [.long rr])) :
    ∀ (n : Nat) (x1 : Int32) (x2 : Int64) (x4 : Int32) (H : Heap) (locs : List Loc) (ls : Array Slot), f_X0_soughtBy_5 fu uP uC n x1 x2 x4 = some rr → xW κ A s (upA wA wa (uP, uC, uD, uJ, ur, ut, ud, ug), wY) H locs → lv_has ls 5 [(0, .ref (xAd κ (26 * wa))), (1, .int x1), (2, .long x2), (4, .int x4)] → W p l e (xR 1 0 0) s m args below meth c H locs 0 0 Q (F0 m 5 ls []) := by
  have hx := hc.1.1
  have hb := hc.1.2.1
  intro n
  induction n with
  | zero =>
    intro x1 x2 x4 H locs ls hf
    rw [f_X0_soughtBy_5] at hf
    cases hf
  | succ n hi =>
    intro x1 x2 x4 H locs ls hf hw hl
    rw [f_X0_soughtBy_5] at hf
    refine lv_iload hx hb dX0_soughtBy_5 (lv_at hl 3 rfl) ?_
    refine lv_aload_n hx hb dX0_soughtBy_7 rfl (lv_at hl 0 rfl) ?_
    refine x_get (v := .ref (xAd κ (26 * wa + 8))) hc hw (ca_0 ha) fX0_21 rfl dX0_soughtBy_8 ?_
    refine x_get (v := .int uC.1) hc hw (ca_8 ha) fX0_67 rfl dX0_soughtBy_11 ?_
    refine lv_icmp_ge (tgt := 62) hx hb dX0_soughtBy_14 (by decide) (fun c1 => ?_) (fun c1 => ?_)
    · have hf := xif_t c1 hf
      refine lv_lload_n hx hb dX0_soughtBy_62 rfl (lv_at hl 2 rfl) ?_
      cases hf
      exact K _ _ _ _ dX0_soughtBy_63 hw
    · have hf := xif_f c1 hf
      refine lv_lload_n hx hb dX0_soughtBy_17 rfl (lv_at hl 2 rfl) ?_
      refine lv_aload_n hx hb dX0_soughtBy_18 rfl (lv_at hl 0 rfl) ?_
      refine lv_iload hx hb dX0_soughtBy_19 (lv_at hl 3 rfl) ?_
      refine lv_iload_n hx hb dX0_soughtBy_21 rfl (lv_at hl 1 rfl) ?_
      obtain ⟨v2, h3, hf⟩ := xb1_of hf
      refine x_calliV (As := [.int x4, .int x1]) (rest := [.long x2]) (σ' := (upA wA wa (uP, uC, uD, uJ, ur, ut, ud, ug), wY)) hc hw hl.1 (m_X0_isClaimOf ha h3) kX0_224 (ca_0 ha) rfl rfl ⟨rfl, rfl⟩ ⟨Nat.le_of_ble_eq_true rfl, Nat.le_of_ble_eq_true rfl⟩ ⟨Nat.zero_le _, Nat.zero_le _⟩ (Nat.le_of_ble_eq_true rfl) dX0_soughtBy_22 (fun H locs hw => ?_)
      refine lv_if_eq (tgt := 53) hx hb dX0_soughtBy_25 (by decide) (fun c4 => ?_) (fun c4 => ?_)
      · have hf := xif_t c4 hf
        refine lv_lconst (v := 0) hx hb dX0_soughtBy_53 (by decide) ?_
        refine lv_ladd hx hb dX0_soughtBy_54 ?_
        refine lv_lstore_n (lv' := [(2, .long (x2 + 0)), (0, .ref (xAd κ (26 * wa))), (1, .int x1), (4, .int x4)]) hx hb dX0_soughtBy_55 rfl hl (by decide) rfl (fun ls hl => ?_)
        refine lv_iinc (v := (x4 + 1)) (lv' := [(4, .int (x4 + 1)), (2, .long (x2 + 0)), (0, .ref (xAd κ (26 * wa))), (1, .int x1)]) hx hb dX0_soughtBy_56 hl (k := 3) rfl rfl (by decide) rfl (fun ls hl => ?_)
        refine lv_goto (tgt := 5) hx hb dX0_soughtBy_59 (by decide) ?_
        exact hi _ _ _ _ _ _ hf hw (lv_sub hl [2, 3, 1, 0] rfl)
      · have hf := xif_f c4 hf
        refine lv_aload_n hx hb dX0_soughtBy_28 rfl (lv_at hl 0 rfl) ?_
        refine x_get (v := .ref (xAd κ (26 * wa + 8))) hc hw (ca_0 ha) fX0_21 rfl dX0_soughtBy_29 ?_
        refine x_get (v := .ref (xAd κ (26 * wa + 11))) hc hw (ca_8 ha) fX0_227 rfl dX0_soughtBy_32 ?_
        refine lv_iload hx hb dX0_soughtBy_35 (lv_at hl 3 rfl) ?_
        obtain ⟨k5, hf⟩ := xk_of hf
        refine x_iald (n := 12) (f := uC.2.2.2.1) hc hw (ca_11 ha) k5 dX0_soughtBy_37 ?_
        refine lv_aload_n hx hb dX0_soughtBy_38 rfl (lv_at hl 0 rfl) ?_
        refine x_get (v := .ref (xAd κ (26 * wa + 8))) hc hw (ca_0 ha) fX0_21 rfl dX0_soughtBy_39 ?_
        refine x_get (v := .ref (xAd κ (26 * wa + 14))) hc hw (ca_8 ha) fX0_144 rfl dX0_soughtBy_42 ?_
        refine lv_iload hx hb dX0_soughtBy_45 (lv_at hl 3 rfl) ?_
        obtain ⟨k6, hf⟩ := xk_of hf
        refine x_iald (n := 12) (f := uC.2.2.2.2.2.2) hc hw (ca_14 ha) k6 dX0_soughtBy_47 ?_
        refine lv_isub hx hb dX0_soughtBy_48 ?_
        refine lv_i2l (v := ((uC.2.2.2.1 x4.toNatClampNeg) - (uC.2.2.2.2.2.2 x4.toNatClampNeg)).toInt64) hx hb dX0_soughtBy_49 rfl ?_
        refine lv_goto (tgt := 54) hx hb dX0_soughtBy_50 (by decide) ?_
        refine lv_ladd hx hb dX0_soughtBy_54 ?_
        refine lv_lstore_n (lv' := [(2, .long (x2 + ((uC.2.2.2.1 x4.toNatClampNeg) - (uC.2.2.2.2.2.2 x4.toNatClampNeg)).toInt64)), (0, .ref (xAd κ (26 * wa))), (1, .int x1), (4, .int x4)]) hx hb dX0_soughtBy_55 rfl hl (by decide) rfl (fun ls hl => ?_)
        refine lv_iinc (v := (x4 + 1)) (lv' := [(4, .int (x4 + 1)), (2, .long (x2 + ((uC.2.2.2.1 x4.toNatClampNeg) - (uC.2.2.2.2.2.2 x4.toNatClampNeg)).toInt64)), (0, .ref (xAd κ (26 * wa))), (1, .int x1)]) hx hb dX0_soughtBy_56 hl (k := 3) rfl rfl (by decide) rfl (fun ls hl => ?_)
        refine lv_goto (tgt := 5) hx hb dX0_soughtBy_59 (by decide) ?_
        exact hi _ _ _ _ _ _ hf hw (lv_sub hl [2, 3, 1, 0] rfl)
set_option maxHeartbeats 4000000 in
set_option maxRecDepth 100000 in
theorem m_X0_soughtBy {l : Launch} {κ : xKt} {wA : Nat → sAcc} {wa : Nat} {wY : sTxt × sRng × sMai × sRef × sOut} (ha : wa < 9) {fu : Nat} {x1 : Int32} {uP : sPar} {uC : sCla} {uD : sDeb} {uJ : sJou} {ur : xF32} {ut : xF32} {ud : Int32} {ug : Int32} {rr : Int64} (hf : f_X0_soughtBy fu x1 uP uC = some rr) : xMl l κ yX0_soughtBy cX0_soughtBy 5 (some .long) (xR 1 0 0) [.ref (xAd κ (26 * wa)), .int x1] (upA wA wa (uP, uC, uD, uJ, ur, ut, ud, ug), wY) (upA wA wa (uP, uC, uD, uJ, ur, ut, ud, ug), wY) rr := by
  unfold f_X0_soughtBy at hf
  refine xMl_of pn_X0 (Nat.le_of_ble_eq_true rfl) ⟨rfl, rfl⟩ ?_
  intro A p e s m args below meth c ls Q hc hw hl K
  have hc : xC κ A p s m args meth c cX0_soughtBy RX0 5 (some .long) := hc
  have hx := hc.1.1
  have hb := hc.1.2.1
  have hl : lv_has ls 5 [(0, .ref (xAd κ (26 * wa))), (1, .int x1)] := hl
  refine lv_lconst (v := 0) hx hb dX0_soughtBy_0 (by decide) ?_
  refine lv_lstore_n (lv' := [(2, .long 0), (0, .ref (xAd κ (26 * wa))), (1, .int x1)]) hx hb dX0_soughtBy_1 rfl hl (by decide) rfl (fun ls hl => ?_)
  refine lv_iconst (v := 0) hx hb dX0_soughtBy_2 (by decide) ?_
  refine lv_istore (lv' := [(4, .int 0), (2, .long 0), (0, .ref (xAd κ (26 * wa))), (1, .int x1)]) hx hb dX0_soughtBy_3 hl (by decide) rfl (fun ls hl => ?_)
  exact l_X0_soughtBy_5 ha hc K fu _ _ _ _ _ _ hf hw (lv_sub hl [2, 3, 1, 0] rfl)
def f_X0_numberOfParty (fu : Nat) (x1 : Int32) (x2 : Int32) (uP : sPar) (uC : sCla) (uD : sDeb) (ut : xF32) : Option Int64 :=
  if x2 = 7 then (xb1 (f_X0_shareOfParty fu x1 uP uC ut) fun v2 => (some v2)) else (if x2 = 9 then (xb1 (f_X2_allOwedBy fu x1 uD) fun v5 => (some v5)) else (if x2 = 10 then (xb1 (f_X2_allOwedTo fu x1 uD) fun v8 => (some v8)) else (xb1 (f_X4_numberOf x1 x2 uP) fun v10 => (some v10))))
set_option maxHeartbeats 4000000 in
set_option maxRecDepth 100000 in
theorem m_X0_numberOfParty {l : Launch} {κ : xKt} {wA : Nat → sAcc} {wa : Nat} {wY : sTxt × sRng × sMai × sRef × sOut} (ha : wa < 9) {fu : Nat} {x1 : Int32} {x2 : Int32} {uP : sPar} {uC : sCla} {uD : sDeb} {uJ : sJou} {ur : xF32} {ut : xF32} {ud : Int32} {ug : Int32} {rr : Int64} (hf : f_X0_numberOfParty fu x1 x2 uP uC uD ut = some rr) : xMl l κ yX0_numberOfParty cX0_numberOfParty 3 (some .long) (xR 5 0 0) [.ref (xAd κ (26 * wa)), .int x1, .int x2] (upA wA wa (uP, uC, uD, uJ, ur, ut, ud, ug), wY) (upA wA wa (uP, uC, uD, uJ, ur, ut, ud, ug), wY) rr := by
  unfold f_X0_numberOfParty at hf
  refine xMl_of pn_X0 (Nat.le_of_ble_eq_true rfl) ⟨rfl, rfl⟩ ?_
  intro A p e s m args below meth c ls Q hc hw hl K
  have hc : xC κ A p s m args meth c cX0_numberOfParty RX0 3 (some .long) := hc
  have hx := hc.1.1
  have hb := hc.1.2.1
  have hl : lv_has ls 3 [(0, .ref (xAd κ (26 * wa))), (1, .int x1), (2, .int x2)] := hl
  refine lv_iload_n hx hb dX0_numberOfParty_0 rfl (lv_at hl 2 rfl) ?_
  by_cases c1 : x2 = 7
  · have hf := xif_t c1 hf
    refine x_tabI (k := 7) (off := 31) (tgt := 32) hx hb dX0_numberOfParty_1 c1 (by decide) (by decide) (by decide) ?_
    refine lv_aload_n hx hb dX0_numberOfParty_32 rfl (lv_at hl 0 rfl) ?_
    refine lv_iload_n hx hb dX0_numberOfParty_33 rfl (lv_at hl 1 rfl) ?_
    obtain ⟨v2, h3, hf⟩ := xb1_of hf
    refine x_calllV (As := [.int x1]) (rest := []) (σ' := (upA wA wa (uP, uC, uD, uJ, ur, ut, ud, ug), wY)) hc hw hl.1 (m_X0_shareOfParty ha h3) kX0_161 (ca_0 ha) rfl rfl ⟨rfl, rfl⟩ ⟨Nat.le_of_ble_eq_true rfl, Nat.le_of_ble_eq_true rfl⟩ ⟨Nat.zero_le _, Nat.zero_le _⟩ (Nat.le_of_ble_eq_true rfl) dX0_numberOfParty_34 (fun H locs hw => ?_)
    cases hf
    exact K _ _ _ _ dX0_numberOfParty_37 hw
  have hf := xif_f c1 hf
  by_cases c4 : x2 = 9
  · have hf := xif_t c4 hf
    refine x_tabI (k := 9) (off := 37) (tgt := 38) hx hb dX0_numberOfParty_1 c4 (by decide) (by decide) (by decide) ?_
    refine lv_aload_n hx hb dX0_numberOfParty_38 rfl (lv_at hl 0 rfl) ?_
    refine x_get (v := .ref (xAd κ (26 * wa + 15))) hc hw (ca_0 ha) fX0_28 rfl dX0_numberOfParty_39 ?_
    refine lv_iload_n hx hb dX0_numberOfParty_42 rfl (lv_at hl 1 rfl) ?_
    obtain ⟨v5, h6, hf⟩ := xb1_of hf
    refine x_calllV (As := [.int x1]) (rest := []) (σ' := (upA wA wa (uP, uC, uD, uJ, ur, ut, ud, ug), wY)) hc hw hl.1 (m_X2_allOwedBy ha h6) kX0_241 (ca_15 ha) rfl rfl ⟨rfl, rfl⟩ ⟨Nat.le_of_ble_eq_true rfl, Nat.le_of_ble_eq_true rfl⟩ ⟨Nat.zero_le _, Nat.zero_le _⟩ (Nat.le_of_ble_eq_true rfl) dX0_numberOfParty_43 (fun H locs hw => ?_)
    cases hf
    exact K _ _ _ _ dX0_numberOfParty_46 hw
  have hf := xif_f c4 hf
  by_cases c7 : x2 = 10
  · have hf := xif_t c7 hf
    refine x_tabI (k := 10) (off := 46) (tgt := 47) hx hb dX0_numberOfParty_1 c7 (by decide) (by decide) (by decide) ?_
    refine lv_aload_n hx hb dX0_numberOfParty_47 rfl (lv_at hl 0 rfl) ?_
    refine x_get (v := .ref (xAd κ (26 * wa + 15))) hc hw (ca_0 ha) fX0_28 rfl dX0_numberOfParty_48 ?_
    refine lv_iload_n hx hb dX0_numberOfParty_51 rfl (lv_at hl 1 rfl) ?_
    obtain ⟨v8, h9, hf⟩ := xb1_of hf
    refine x_calllV (As := [.int x1]) (rest := []) (σ' := (upA wA wa (uP, uC, uD, uJ, ur, ut, ud, ug), wY)) hc hw hl.1 (m_X2_allOwedTo ha h9) kX0_244 (ca_15 ha) rfl rfl ⟨rfl, rfl⟩ ⟨Nat.le_of_ble_eq_true rfl, Nat.le_of_ble_eq_true rfl⟩ ⟨Nat.zero_le _, Nat.zero_le _⟩ (Nat.le_of_ble_eq_true rfl) dX0_numberOfParty_52 (fun H locs hw => ?_)
    cases hf
    exact K _ _ _ _ dX0_numberOfParty_55 hw
  have hf := xif_f c7 hf
  have c1 := x_neT (z := 7) c1 (by decide)
  have c4 := x_neT (z := 9) c4 (by decide)
  have c7 := x_neT (z := 10) c7 (by decide)
  refine x_tabD (tgt := 56) hx hb dX0_numberOfParty_1 ?_ (by decide) ?_
  · by_cases q1 : x2.toInt < 7
    · exact Or.inl q1
    by_cases q2 : 10 < x2.toInt
    · exact Or.inr (Or.inl q2)
    have q3 : x2.toInt = 8 := by omega
    refine Or.inr (Or.inr ?_)
    rcases q3 with q3 <;> (rw [q3]; decide)
  refine lv_aload_n hx hb dX0_numberOfParty_56 rfl (lv_at hl 0 rfl) ?_
  refine x_get (v := .ref (xAd κ (26 * wa + 1))) hc hw (ca_0 ha) fX0_12 rfl dX0_numberOfParty_57 ?_
  refine lv_iload_n hx hb dX0_numberOfParty_60 rfl (lv_at hl 1 rfl) ?_
  refine lv_iload_n hx hb dX0_numberOfParty_61 rfl (lv_at hl 2 rfl) ?_
  obtain ⟨v10, h11, hf⟩ := xb1_of hf
  refine x_calllV (As := [.int x1, .int x2]) (rest := []) (σ' := (upA wA wa (uP, uC, uD, uJ, ur, ut, ud, ug), wY)) hc hw hl.1 (m_X4_numberOf ha h11) kX0_247 (ca_1 ha) rfl rfl ⟨rfl, rfl⟩ ⟨Nat.le_of_ble_eq_true rfl, Nat.le_of_ble_eq_true rfl⟩ ⟨Nat.zero_le _, Nat.zero_le _⟩ (Nat.le_of_ble_eq_true rfl) dX0_numberOfParty_62 (fun H locs hw => ?_)
  cases hf
  exact K _ _ _ _ dX0_numberOfParty_65 hw
def f_X0_numberOfSide (fu : Nat) (x1 : Int32) (x2 : Int32) (uP : sPar) (uC : sCla) (ut : xF32) : Option Int64 :=
  if x2 = 0 then (xb1 (f_X0_lostBy fu x1 uP uC) fun v2 => (some v2)) else (if x2 = 1 then (xb1 (f_X0_shareOfSide fu x1 uP uC ut) fun v5 => (some v5)) else (if x2 = 2 then (xb1 (f_X4_countOn fu x1 uP) fun v8 => (some v8.toInt64)) else (xb1 (f_X4_weightOn fu x1 uP) fun v10 => (some v10.toInt64))))
set_option maxHeartbeats 4000000 in
set_option maxRecDepth 100000 in
theorem m_X0_numberOfSide {l : Launch} {κ : xKt} {wA : Nat → sAcc} {wa : Nat} {wY : sTxt × sRng × sMai × sRef × sOut} (ha : wa < 9) {fu : Nat} {x1 : Int32} {x2 : Int32} {uP : sPar} {uC : sCla} {uD : sDeb} {uJ : sJou} {ur : xF32} {ut : xF32} {ud : Int32} {ug : Int32} {rr : Int64} (hf : f_X0_numberOfSide fu x1 x2 uP uC ut = some rr) : xMl l κ yX0_numberOfSide cX0_numberOfSide 3 (some .long) (xR 4 0 0) [.ref (xAd κ (26 * wa)), .int x1, .int x2] (upA wA wa (uP, uC, uD, uJ, ur, ut, ud, ug), wY) (upA wA wa (uP, uC, uD, uJ, ur, ut, ud, ug), wY) rr := by
  unfold f_X0_numberOfSide at hf
  refine xMl_of pn_X0 (Nat.le_of_ble_eq_true rfl) ⟨rfl, rfl⟩ ?_
  intro A p e s m args below meth c ls Q hc hw hl K
  have hc : xC κ A p s m args meth c cX0_numberOfSide RX0 3 (some .long) := hc
  have hx := hc.1.1
  have hb := hc.1.2.1
  have hl : lv_has ls 3 [(0, .ref (xAd κ (26 * wa))), (1, .int x1), (2, .int x2)] := hl
  refine lv_iload_n hx hb dX0_numberOfSide_0 rfl (lv_at hl 2 rfl) ?_
  by_cases c1 : x2 = 0
  · have hf := xif_t c1 hf
    refine x_tabI (k := 0) (off := 27) (tgt := 28) hx hb dX0_numberOfSide_1 c1 (by decide) (by decide) (by decide) ?_
    refine lv_aload_n hx hb dX0_numberOfSide_28 rfl (lv_at hl 0 rfl) ?_
    refine lv_iload_n hx hb dX0_numberOfSide_29 rfl (lv_at hl 1 rfl) ?_
    obtain ⟨v2, h3, hf⟩ := xb1_of hf
    refine x_calllV (As := [.int x1]) (rest := []) (σ' := (upA wA wa (uP, uC, uD, uJ, ur, ut, ud, ug), wY)) hc hw hl.1 (m_X0_lostBy ha h3) kX0_233 (ca_0 ha) rfl rfl ⟨rfl, rfl⟩ ⟨Nat.le_of_ble_eq_true rfl, Nat.le_of_ble_eq_true rfl⟩ ⟨Nat.zero_le _, Nat.zero_le _⟩ (Nat.le_of_ble_eq_true rfl) dX0_numberOfSide_30 (fun H locs hw => ?_)
    cases hf
    exact K _ _ _ _ dX0_numberOfSide_33 hw
  have hf := xif_f c1 hf
  by_cases c4 : x2 = 1
  · have hf := xif_t c4 hf
    refine x_tabI (k := 1) (off := 33) (tgt := 34) hx hb dX0_numberOfSide_1 c4 (by decide) (by decide) (by decide) ?_
    refine lv_aload_n hx hb dX0_numberOfSide_34 rfl (lv_at hl 0 rfl) ?_
    refine lv_iload_n hx hb dX0_numberOfSide_35 rfl (lv_at hl 1 rfl) ?_
    obtain ⟨v5, h6, hf⟩ := xb1_of hf
    refine x_calllV (As := [.int x1]) (rest := []) (σ' := (upA wA wa (uP, uC, uD, uJ, ur, ut, ud, ug), wY)) hc hw hl.1 (m_X0_shareOfSide ha h6) kX0_238 (ca_0 ha) rfl rfl ⟨rfl, rfl⟩ ⟨Nat.le_of_ble_eq_true rfl, Nat.le_of_ble_eq_true rfl⟩ ⟨Nat.zero_le _, Nat.zero_le _⟩ (Nat.le_of_ble_eq_true rfl) dX0_numberOfSide_36 (fun H locs hw => ?_)
    cases hf
    exact K _ _ _ _ dX0_numberOfSide_39 hw
  have hf := xif_f c4 hf
  by_cases c7 : x2 = 2
  · have hf := xif_t c7 hf
    refine x_tabI (k := 2) (off := 39) (tgt := 40) hx hb dX0_numberOfSide_1 c7 (by decide) (by decide) (by decide) ?_
    refine lv_aload_n hx hb dX0_numberOfSide_40 rfl (lv_at hl 0 rfl) ?_
    refine x_get (v := .ref (xAd κ (26 * wa + 1))) hc hw (ca_0 ha) fX0_12 rfl dX0_numberOfSide_41 ?_
    refine lv_iload_n hx hb dX0_numberOfSide_44 rfl (lv_at hl 1 rfl) ?_
    obtain ⟨v8, h9, hf⟩ := xb1_of hf
    refine x_calliV (As := [.int x1]) (rest := []) (σ' := (upA wA wa (uP, uC, uD, uJ, ur, ut, ud, ug), wY)) hc hw hl.1 (m_X4_countOn ha h9) kX0_250 (ca_1 ha) rfl rfl ⟨rfl, rfl⟩ ⟨Nat.le_of_ble_eq_true rfl, Nat.le_of_ble_eq_true rfl⟩ ⟨Nat.zero_le _, Nat.zero_le _⟩ (Nat.le_of_ble_eq_true rfl) dX0_numberOfSide_45 (fun H locs hw => ?_)
    refine lv_i2l (v := v8.toInt64) hx hb dX0_numberOfSide_48 rfl ?_
    cases hf
    exact K _ _ _ _ dX0_numberOfSide_49 hw
  have hf := xif_f c7 hf
  have c1 := x_neT (z := 0) c1 (by decide)
  have c4 := x_neT (z := 1) c4 (by decide)
  have c7 := x_neT (z := 2) c7 (by decide)
  refine x_tabD (tgt := 50) hx hb dX0_numberOfSide_1 (by omega) (by decide) ?_
  refine lv_aload_n hx hb dX0_numberOfSide_50 rfl (lv_at hl 0 rfl) ?_
  refine x_get (v := .ref (xAd κ (26 * wa + 1))) hc hw (ca_0 ha) fX0_12 rfl dX0_numberOfSide_51 ?_
  refine lv_iload_n hx hb dX0_numberOfSide_54 rfl (lv_at hl 1 rfl) ?_
  obtain ⟨v10, h11, hf⟩ := xb1_of hf
  refine x_calliV (As := [.int x1]) (rest := []) (σ' := (upA wA wa (uP, uC, uD, uJ, ur, ut, ud, ug), wY)) hc hw hl.1 (m_X4_weightOn ha h11) kX0_253 (ca_1 ha) rfl rfl ⟨rfl, rfl⟩ ⟨Nat.le_of_ble_eq_true rfl, Nat.le_of_ble_eq_true rfl⟩ ⟨Nat.zero_le _, Nat.zero_le _⟩ (Nat.le_of_ble_eq_true rfl) dX0_numberOfSide_55 (fun H locs hw => ?_)
  refine lv_i2l (v := v10.toInt64) hx hb dX0_numberOfSide_58 rfl ?_
  cases hf
  exact K _ _ _ _ dX0_numberOfSide_59 hw
def f_X0_numberOfAccount (fu : Nat) (x1 : Int32) (uP : sPar) (uC : sCla) (uD : sDeb) (ud : Int32) (ug : Int32) : Option Int64 :=
  if x1 = 0 then (some uP.1.toInt64) else (if x1 = 1 then (some uC.1.toInt64) else (if x1 = 2 then (some uD.1.toInt64) else (if x1 = 3 then (xb1 (f_X2_allOwed fu uD) fun v5 => (some v5)) else (if x1 = 4 then (xb1 (f_X4_totalOf fu 3 uP) fun v8 => (some v8)) else (if x1 = 5 then (xb1 (f_X4_totalOf fu 4 uP) fun v11 => (some v11)) else (if x1 = 6 then (xb1 (f_X4_totalOf fu 5 uP) fun v14 => (some v14)) else (if x1 = 7 then (xb1 (f_X4_totalOf fu 6 uP) fun v17 => (some v17)) else (if x1 = 8 then (some ud.toInt64) else (if x1 = 9 then (some ug.toInt64) else (if x1 = 10 then (xb1 (f_X1_allLeft fu uC) fun v22 => (some v22)) else (xb1 (f_X4_totalOf fu 8 uP) fun v24 => (some v24))))))))))))
set_option maxHeartbeats 4000000 in
set_option maxRecDepth 100000 in
theorem m_X0_numberOfAccount {l : Launch} {κ : xKt} {wA : Nat → sAcc} {wa : Nat} {wY : sTxt × sRng × sMai × sRef × sOut} (ha : wa < 9) {fu : Nat} {x1 : Int32} {uP : sPar} {uC : sCla} {uD : sDeb} {uJ : sJou} {ur : xF32} {ut : xF32} {ud : Int32} {ug : Int32} {rr : Int64} (hf : f_X0_numberOfAccount fu x1 uP uC uD ud ug = some rr) : xMl l κ yX0_numberOfAccount cX0_numberOfAccount 2 (some .long) (xR 3 0 0) [.ref (xAd κ (26 * wa)), .int x1] (upA wA wa (uP, uC, uD, uJ, ur, ut, ud, ug), wY) (upA wA wa (uP, uC, uD, uJ, ur, ut, ud, ug), wY) rr := by
  unfold f_X0_numberOfAccount at hf
  refine xMl_of pn_X0 (Nat.le_of_ble_eq_true rfl) ⟨rfl, rfl⟩ ?_
  intro A p e s m args below meth c ls Q hc hw hl K
  have hc : xC κ A p s m args meth c cX0_numberOfAccount RX0 2 (some .long) := hc
  have hx := hc.1.1
  have hb := hc.1.2.1
  have hl : lv_has ls 2 [(0, .ref (xAd κ (26 * wa))), (1, .int x1)] := hl
  refine lv_iload_n hx hb dX0_numberOfAccount_0 rfl (lv_at hl 1 rfl) ?_
  by_cases c1 : x1 = 0
  · have hf := xif_t c1 hf
    refine x_tabI (k := 0) (off := 59) (tgt := 60) hx hb dX0_numberOfAccount_1 c1 (by decide) (by decide) (by decide) ?_
    refine lv_aload_n hx hb dX0_numberOfAccount_60 rfl (lv_at hl 0 rfl) ?_
    refine x_get (v := .ref (xAd κ (26 * wa + 1))) hc hw (ca_0 ha) fX0_12 rfl dX0_numberOfAccount_61 ?_
    refine x_get (v := .int uP.1) hc hw (ca_1 ha) fX0_64 rfl dX0_numberOfAccount_64 ?_
    refine lv_i2l (v := uP.1.toInt64) hx hb dX0_numberOfAccount_67 rfl ?_
    cases hf
    exact K _ _ _ _ dX0_numberOfAccount_68 hw
  have hf := xif_f c1 hf
  by_cases c2 : x1 = 1
  · have hf := xif_t c2 hf
    refine x_tabI (k := 1) (off := 68) (tgt := 69) hx hb dX0_numberOfAccount_1 c2 (by decide) (by decide) (by decide) ?_
    refine lv_aload_n hx hb dX0_numberOfAccount_69 rfl (lv_at hl 0 rfl) ?_
    refine x_get (v := .ref (xAd κ (26 * wa + 8))) hc hw (ca_0 ha) fX0_21 rfl dX0_numberOfAccount_70 ?_
    refine x_get (v := .int uC.1) hc hw (ca_8 ha) fX0_67 rfl dX0_numberOfAccount_73 ?_
    refine lv_i2l (v := uC.1.toInt64) hx hb dX0_numberOfAccount_76 rfl ?_
    cases hf
    exact K _ _ _ _ dX0_numberOfAccount_77 hw
  have hf := xif_f c2 hf
  by_cases c3 : x1 = 2
  · have hf := xif_t c3 hf
    refine x_tabI (k := 2) (off := 77) (tgt := 78) hx hb dX0_numberOfAccount_1 c3 (by decide) (by decide) (by decide) ?_
    refine lv_aload_n hx hb dX0_numberOfAccount_78 rfl (lv_at hl 0 rfl) ?_
    refine x_get (v := .ref (xAd κ (26 * wa + 15))) hc hw (ca_0 ha) fX0_28 rfl dX0_numberOfAccount_79 ?_
    refine x_get (v := .int uD.1) hc hw (ca_15 ha) fX0_68 rfl dX0_numberOfAccount_82 ?_
    refine lv_i2l (v := uD.1.toInt64) hx hb dX0_numberOfAccount_85 rfl ?_
    cases hf
    exact K _ _ _ _ dX0_numberOfAccount_86 hw
  have hf := xif_f c3 hf
  by_cases c4 : x1 = 3
  · have hf := xif_t c4 hf
    refine x_tabI (k := 3) (off := 86) (tgt := 87) hx hb dX0_numberOfAccount_1 c4 (by decide) (by decide) (by decide) ?_
    refine lv_aload_n hx hb dX0_numberOfAccount_87 rfl (lv_at hl 0 rfl) ?_
    refine x_get (v := .ref (xAd κ (26 * wa + 15))) hc hw (ca_0 ha) fX0_28 rfl dX0_numberOfAccount_88 ?_
    obtain ⟨v5, h6, hf⟩ := xb1_of hf
    refine x_calllV (As := []) (rest := []) (σ' := (upA wA wa (uP, uC, uD, uJ, ur, ut, ud, ug), wY)) hc hw hl.1 (m_X2_allOwed ha h6) kX0_256 (ca_15 ha) rfl rfl ⟨rfl, rfl⟩ ⟨Nat.le_of_ble_eq_true rfl, Nat.le_of_ble_eq_true rfl⟩ ⟨Nat.zero_le _, Nat.zero_le _⟩ (Nat.le_of_ble_eq_true rfl) dX0_numberOfAccount_91 (fun H locs hw => ?_)
    cases hf
    exact K _ _ _ _ dX0_numberOfAccount_94 hw
  have hf := xif_f c4 hf
  by_cases c7 : x1 = 4
  · have hf := xif_t c7 hf
    refine x_tabI (k := 4) (off := 94) (tgt := 95) hx hb dX0_numberOfAccount_1 c7 (by decide) (by decide) (by decide) ?_
    refine lv_aload_n hx hb dX0_numberOfAccount_95 rfl (lv_at hl 0 rfl) ?_
    refine x_get (v := .ref (xAd κ (26 * wa + 1))) hc hw (ca_0 ha) fX0_12 rfl dX0_numberOfAccount_96 ?_
    refine lv_iconst (v := 3) hx hb dX0_numberOfAccount_99 (by decide) ?_
    obtain ⟨v8, h9, hf⟩ := xb1_of hf
    refine x_calllV (As := [.int 3]) (rest := []) (σ' := (upA wA wa (uP, uC, uD, uJ, ur, ut, ud, ug), wY)) hc hw hl.1 (m_X4_totalOf ha h9) kX0_259 (ca_1 ha) rfl rfl ⟨rfl, rfl⟩ ⟨Nat.le_of_ble_eq_true rfl, Nat.le_of_ble_eq_true rfl⟩ ⟨Nat.zero_le _, Nat.zero_le _⟩ (Nat.le_of_ble_eq_true rfl) dX0_numberOfAccount_100 (fun H locs hw => ?_)
    cases hf
    exact K _ _ _ _ dX0_numberOfAccount_103 hw
  have hf := xif_f c7 hf
  by_cases c10 : x1 = 5
  · have hf := xif_t c10 hf
    refine x_tabI (k := 5) (off := 103) (tgt := 104) hx hb dX0_numberOfAccount_1 c10 (by decide) (by decide) (by decide) ?_
    refine lv_aload_n hx hb dX0_numberOfAccount_104 rfl (lv_at hl 0 rfl) ?_
    refine x_get (v := .ref (xAd κ (26 * wa + 1))) hc hw (ca_0 ha) fX0_12 rfl dX0_numberOfAccount_105 ?_
    refine lv_iconst (v := 4) hx hb dX0_numberOfAccount_108 (by decide) ?_
    obtain ⟨v11, h12, hf⟩ := xb1_of hf
    refine x_calllV (As := [.int 4]) (rest := []) (σ' := (upA wA wa (uP, uC, uD, uJ, ur, ut, ud, ug), wY)) hc hw hl.1 (m_X4_totalOf ha h12) kX0_259 (ca_1 ha) rfl rfl ⟨rfl, rfl⟩ ⟨Nat.le_of_ble_eq_true rfl, Nat.le_of_ble_eq_true rfl⟩ ⟨Nat.zero_le _, Nat.zero_le _⟩ (Nat.le_of_ble_eq_true rfl) dX0_numberOfAccount_109 (fun H locs hw => ?_)
    cases hf
    exact K _ _ _ _ dX0_numberOfAccount_112 hw
  have hf := xif_f c10 hf
  by_cases c13 : x1 = 6
  · have hf := xif_t c13 hf
    refine x_tabI (k := 6) (off := 112) (tgt := 113) hx hb dX0_numberOfAccount_1 c13 (by decide) (by decide) (by decide) ?_
    refine lv_aload_n hx hb dX0_numberOfAccount_113 rfl (lv_at hl 0 rfl) ?_
    refine x_get (v := .ref (xAd κ (26 * wa + 1))) hc hw (ca_0 ha) fX0_12 rfl dX0_numberOfAccount_114 ?_
    refine lv_iconst (v := 5) hx hb dX0_numberOfAccount_117 (by decide) ?_
    obtain ⟨v14, h15, hf⟩ := xb1_of hf
    refine x_calllV (As := [.int 5]) (rest := []) (σ' := (upA wA wa (uP, uC, uD, uJ, ur, ut, ud, ug), wY)) hc hw hl.1 (m_X4_totalOf ha h15) kX0_259 (ca_1 ha) rfl rfl ⟨rfl, rfl⟩ ⟨Nat.le_of_ble_eq_true rfl, Nat.le_of_ble_eq_true rfl⟩ ⟨Nat.zero_le _, Nat.zero_le _⟩ (Nat.le_of_ble_eq_true rfl) dX0_numberOfAccount_118 (fun H locs hw => ?_)
    cases hf
    exact K _ _ _ _ dX0_numberOfAccount_121 hw
  have hf := xif_f c13 hf
  by_cases c16 : x1 = 7
  · have hf := xif_t c16 hf
    refine x_tabI (k := 7) (off := 121) (tgt := 122) hx hb dX0_numberOfAccount_1 c16 (by decide) (by decide) (by decide) ?_
    refine lv_aload_n hx hb dX0_numberOfAccount_122 rfl (lv_at hl 0 rfl) ?_
    refine x_get (v := .ref (xAd κ (26 * wa + 1))) hc hw (ca_0 ha) fX0_12 rfl dX0_numberOfAccount_123 ?_
    refine lv_bipush (v := 6) hx hb dX0_numberOfAccount_126 (by decide) ?_
    obtain ⟨v17, h18, hf⟩ := xb1_of hf
    refine x_calllV (As := [.int 6]) (rest := []) (σ' := (upA wA wa (uP, uC, uD, uJ, ur, ut, ud, ug), wY)) hc hw hl.1 (m_X4_totalOf ha h18) kX0_259 (ca_1 ha) rfl rfl ⟨rfl, rfl⟩ ⟨Nat.le_of_ble_eq_true rfl, Nat.le_of_ble_eq_true rfl⟩ ⟨Nat.zero_le _, Nat.zero_le _⟩ (Nat.le_of_ble_eq_true rfl) dX0_numberOfAccount_128 (fun H locs hw => ?_)
    cases hf
    exact K _ _ _ _ dX0_numberOfAccount_131 hw
  have hf := xif_f c16 hf
  by_cases c19 : x1 = 8
  · have hf := xif_t c19 hf
    refine x_tabI (k := 8) (off := 131) (tgt := 132) hx hb dX0_numberOfAccount_1 c19 (by decide) (by decide) (by decide) ?_
    refine lv_aload_n hx hb dX0_numberOfAccount_132 rfl (lv_at hl 0 rfl) ?_
    refine x_get (v := .int ud) hc hw (ca_0 ha) fX0_57 rfl dX0_numberOfAccount_133 ?_
    refine lv_i2l (v := ud.toInt64) hx hb dX0_numberOfAccount_136 rfl ?_
    cases hf
    exact K _ _ _ _ dX0_numberOfAccount_137 hw
  have hf := xif_f c19 hf
  by_cases c20 : x1 = 9
  · have hf := xif_t c20 hf
    refine x_tabI (k := 9) (off := 137) (tgt := 138) hx hb dX0_numberOfAccount_1 c20 (by decide) (by decide) (by decide) ?_
    refine lv_aload_n hx hb dX0_numberOfAccount_138 rfl (lv_at hl 0 rfl) ?_
    refine x_get (v := .int ug) hc hw (ca_0 ha) fX0_61 rfl dX0_numberOfAccount_139 ?_
    refine lv_i2l (v := ug.toInt64) hx hb dX0_numberOfAccount_142 rfl ?_
    cases hf
    exact K _ _ _ _ dX0_numberOfAccount_143 hw
  have hf := xif_f c20 hf
  by_cases c21 : x1 = 10
  · have hf := xif_t c21 hf
    refine x_tabI (k := 10) (off := 143) (tgt := 144) hx hb dX0_numberOfAccount_1 c21 (by decide) (by decide) (by decide) ?_
    refine lv_aload_n hx hb dX0_numberOfAccount_144 rfl (lv_at hl 0 rfl) ?_
    refine x_get (v := .ref (xAd κ (26 * wa + 8))) hc hw (ca_0 ha) fX0_21 rfl dX0_numberOfAccount_145 ?_
    obtain ⟨v22, h23, hf⟩ := xb1_of hf
    refine x_calllV (As := []) (rest := []) (σ' := (upA wA wa (uP, uC, uD, uJ, ur, ut, ud, ug), wY)) hc hw hl.1 (m_X1_allLeft ha h23) kX0_262 (ca_8 ha) rfl rfl ⟨rfl, rfl⟩ ⟨Nat.le_of_ble_eq_true rfl, Nat.le_of_ble_eq_true rfl⟩ ⟨Nat.zero_le _, Nat.zero_le _⟩ (Nat.le_of_ble_eq_true rfl) dX0_numberOfAccount_148 (fun H locs hw => ?_)
    cases hf
    exact K _ _ _ _ dX0_numberOfAccount_151 hw
  have hf := xif_f c21 hf
  have c1 := x_neT (z := 0) c1 (by decide)
  have c2 := x_neT (z := 1) c2 (by decide)
  have c3 := x_neT (z := 2) c3 (by decide)
  have c4 := x_neT (z := 3) c4 (by decide)
  have c7 := x_neT (z := 4) c7 (by decide)
  have c10 := x_neT (z := 5) c10 (by decide)
  have c13 := x_neT (z := 6) c13 (by decide)
  have c16 := x_neT (z := 7) c16 (by decide)
  have c19 := x_neT (z := 8) c19 (by decide)
  have c20 := x_neT (z := 9) c20 (by decide)
  have c21 := x_neT (z := 10) c21 (by decide)
  refine x_tabD (tgt := 152) hx hb dX0_numberOfAccount_1 (by omega) (by decide) ?_
  refine lv_aload_n hx hb dX0_numberOfAccount_152 rfl (lv_at hl 0 rfl) ?_
  refine x_get (v := .ref (xAd κ (26 * wa + 1))) hc hw (ca_0 ha) fX0_12 rfl dX0_numberOfAccount_153 ?_
  refine lv_bipush (v := 8) hx hb dX0_numberOfAccount_156 (by decide) ?_
  obtain ⟨v24, h25, hf⟩ := xb1_of hf
  refine x_calllV (As := [.int 8]) (rest := []) (σ' := (upA wA wa (uP, uC, uD, uJ, ur, ut, ud, ug), wY)) hc hw hl.1 (m_X4_totalOf ha h25) kX0_259 (ca_1 ha) rfl rfl ⟨rfl, rfl⟩ ⟨Nat.le_of_ble_eq_true rfl, Nat.le_of_ble_eq_true rfl⟩ ⟨Nat.zero_le _, Nat.zero_le _⟩ (Nat.le_of_ble_eq_true rfl) dX0_numberOfAccount_158 (fun H locs hw => ?_)
  cases hf
  exact K _ _ _ _ dX0_numberOfAccount_161 hw
