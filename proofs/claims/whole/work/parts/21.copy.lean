set_option maxHeartbeats 4000000 in
set_option maxRecDepth 100000 in
theorem m_X4_copyFrom {l : Launch} {κ : xKt} {wA : Nat → sAcc} {wa wb : Nat} {wY : sTxt × sRng × sMai × sRef × sOut} (ha : wa < 9) (hb : wb < 9) (hne : wa ≠ wb) {uP : sPar} {uC : sCla} {uD : sDeb} {uJ : sJou} {ur : xF32} {ut : xF32} {ud : Int32} {ug : Int32} : xMv l κ yX4_copyFrom cX4_copyFrom 2 none (xR 0 0 0) [.ref (xAd κ (26 * wa + 1)), .ref (xAd κ (26 * wb + 1))] (upA wA wa (uP, uC, uD, uJ, ur, ut, ud, ug), wY) (upA wA wa ((wA wb).1, uC, uD, uJ, ur, ut, ud, ug), wY) := by
  refine xMv_of pn_X4 (Nat.le_of_ble_eq_true rfl) ⟨rfl, rfl⟩ ?_
  intro A p e s m args below meth c ls Q hc hw hl K
  have hc : xC κ A p s m args meth c cX4_copyFrom RX4 2 none := hc
  have hx := hc.1.1
  have hb0 := hc.1.2.1
  have hl : lv_has ls 2 [(0, .ref (xAd κ (26 * wa + 1))), (1, .ref (xAd κ (26 * wb + 1)))] := hl
  refine lv_aload_n hx hb0 dX4_copyFrom_0 rfl (lv_at hl 0 rfl) ?_
  refine lv_aload_n hx hb0 dX4_copyFrom_1 rfl (lv_at hl 1 rfl) ?_
  refine x_get (v := .int (wA wb).1.1) hc hw (cb_1 hb hne) fX4_9 rfl dX4_copyFrom_2 ?_
  refine x_put (σ' := (upA wA wa (((wA wb).1.1, uP.2.1, uP.2.2.1, uP.2.2.2.1, uP.2.2.2.2.1, uP.2.2.2.2.2.1, uP.2.2.2.2.2.2), uC, uD, uJ, ur, ut, ud, ug), wY)) hc hw (ca_1 ha) fX4_9 rfl rfl (Nat.le_of_ble_eq_true rfl) (sa_0_0 ha) dX4_copyFrom_5 (fun H locs hw => ?_)
  refine lv_aload_n hx hb0 dX4_copyFrom_8 rfl (lv_at hl 1 rfl) ?_
  refine x_get (v := .ref (xAd κ (26 * wb + 2))) hc hw (cb_1 hb hne) fX4_15 rfl dX4_copyFrom_9 ?_
  refine lv_iconst (v := 0) hx hb0 dX4_copyFrom_12 (by decide) ?_
  refine lv_aload_n hx hb0 dX4_copyFrom_13 rfl (lv_at hl 0 rfl) ?_
  refine x_get (v := .ref (xAd κ (26 * wa + 2))) hc hw (ca_1 ha) fX4_15 rfl dX4_copyFrom_14 ?_
  refine lv_iconst (v := 0) hx hb0 dX4_copyFrom_17 (by decide) ?_
  refine lv_bipush (v := 6) hx hb0 dX4_copyFrom_18 (by decide) ?_
  refine x_copyi (n := 6) (f := (wA wb).1.2.1) (σ' := (upA wA wa (((wA wb).1.1, (wA wb).1.2.1, uP.2.2.1, uP.2.2.2.1, uP.2.2.2.2.1, uP.2.2.2.2.2.1, uP.2.2.2.2.2.2), uC, uD, uJ, ur, ut, ud, ug), wY)) hc hw hl.1 ac_X4_35 (cb_2 hb hne) (ca_2 ha) ⟨by decide, by decide⟩ (sa_0_1 ha) ⟨Nat.le_of_ble_eq_true rfl, Nat.le_of_ble_eq_true rfl⟩ dX4_copyFrom_20 (fun H locs hw => ?_)
  refine lv_aload_n hx hb0 dX4_copyFrom_23 rfl (lv_at hl 1 rfl) ?_
  refine x_get (v := .ref (xAd κ (26 * wb + 3))) hc hw (cb_1 hb hne) fX4_19 rfl dX4_copyFrom_24 ?_
  refine lv_iconst (v := 0) hx hb0 dX4_copyFrom_27 (by decide) ?_
  refine lv_aload_n hx hb0 dX4_copyFrom_28 rfl (lv_at hl 0 rfl) ?_
  refine x_get (v := .ref (xAd κ (26 * wa + 3))) hc hw (ca_1 ha) fX4_19 rfl dX4_copyFrom_29 ?_
  refine lv_iconst (v := 0) hx hb0 dX4_copyFrom_32 (by decide) ?_
  refine lv_bipush (v := 6) hx hb0 dX4_copyFrom_33 (by decide) ?_
  refine x_copyi (n := 6) (f := (wA wb).1.2.2.1) (σ' := (upA wA wa (((wA wb).1.1, (wA wb).1.2.1, (wA wb).1.2.2.1, uP.2.2.2.1, uP.2.2.2.2.1, uP.2.2.2.2.2.1, uP.2.2.2.2.2.2), uC, uD, uJ, ur, ut, ud, ug), wY)) hc hw hl.1 ac_X4_35 (cb_3 hb hne) (ca_3 ha) ⟨by decide, by decide⟩ (sa_0_2 ha) ⟨Nat.le_of_ble_eq_true rfl, Nat.le_of_ble_eq_true rfl⟩ dX4_copyFrom_35 (fun H locs hw => ?_)
  refine lv_aload_n hx hb0 dX4_copyFrom_38 rfl (lv_at hl 1 rfl) ?_
  refine x_get (v := .ref (xAd κ (26 * wb + 4))) hc hw (cb_1 hb hne) fX4_22 rfl dX4_copyFrom_39 ?_
  refine lv_iconst (v := 0) hx hb0 dX4_copyFrom_42 (by decide) ?_
  refine lv_aload_n hx hb0 dX4_copyFrom_43 rfl (lv_at hl 0 rfl) ?_
  refine x_get (v := .ref (xAd κ (26 * wa + 4))) hc hw (ca_1 ha) fX4_22 rfl dX4_copyFrom_44 ?_
  refine lv_iconst (v := 0) hx hb0 dX4_copyFrom_47 (by decide) ?_
  refine lv_bipush (v := 6) hx hb0 dX4_copyFrom_48 (by decide) ?_
  refine x_copyl (n := 6) (f := (wA wb).1.2.2.2.1) (σ' := (upA wA wa (((wA wb).1.1, (wA wb).1.2.1, (wA wb).1.2.2.1, (wA wb).1.2.2.2.1, uP.2.2.2.2.1, uP.2.2.2.2.2.1, uP.2.2.2.2.2.2), uC, uD, uJ, ur, ut, ud, ug), wY)) hc hw hl.1 ac_X4_35 (cb_4 hb hne) (ca_4 ha) ⟨by decide, by decide⟩ (sa_0_3 ha) ⟨Nat.le_of_ble_eq_true rfl, Nat.le_of_ble_eq_true rfl⟩ dX4_copyFrom_50 (fun H locs hw => ?_)
  refine lv_aload_n hx hb0 dX4_copyFrom_53 rfl (lv_at hl 1 rfl) ?_
  refine x_get (v := .ref (xAd κ (26 * wb + 5))) hc hw (cb_1 hb hne) fX4_26 rfl dX4_copyFrom_54 ?_
  refine lv_iconst (v := 0) hx hb0 dX4_copyFrom_57 (by decide) ?_
  refine lv_aload_n hx hb0 dX4_copyFrom_58 rfl (lv_at hl 0 rfl) ?_
  refine x_get (v := .ref (xAd κ (26 * wa + 5))) hc hw (ca_1 ha) fX4_26 rfl dX4_copyFrom_59 ?_
  refine lv_iconst (v := 0) hx hb0 dX4_copyFrom_62 (by decide) ?_
  refine lv_bipush (v := 6) hx hb0 dX4_copyFrom_63 (by decide) ?_
  refine x_copyl (n := 6) (f := (wA wb).1.2.2.2.2.1) (σ' := (upA wA wa (((wA wb).1.1, (wA wb).1.2.1, (wA wb).1.2.2.1, (wA wb).1.2.2.2.1, (wA wb).1.2.2.2.2.1, uP.2.2.2.2.2.1, uP.2.2.2.2.2.2), uC, uD, uJ, ur, ut, ud, ug), wY)) hc hw hl.1 ac_X4_35 (cb_5 hb hne) (ca_5 ha) ⟨by decide, by decide⟩ (sa_0_4 ha) ⟨Nat.le_of_ble_eq_true rfl, Nat.le_of_ble_eq_true rfl⟩ dX4_copyFrom_65 (fun H locs hw => ?_)
  refine lv_aload_n hx hb0 dX4_copyFrom_68 rfl (lv_at hl 1 rfl) ?_
  refine x_get (v := .ref (xAd κ (26 * wb + 6))) hc hw (cb_1 hb hne) fX4_29 rfl dX4_copyFrom_69 ?_
  refine lv_iconst (v := 0) hx hb0 dX4_copyFrom_72 (by decide) ?_
  refine lv_aload_n hx hb0 dX4_copyFrom_73 rfl (lv_at hl 0 rfl) ?_
  refine x_get (v := .ref (xAd κ (26 * wa + 6))) hc hw (ca_1 ha) fX4_29 rfl dX4_copyFrom_74 ?_
  refine lv_iconst (v := 0) hx hb0 dX4_copyFrom_77 (by decide) ?_
  refine lv_bipush (v := 6) hx hb0 dX4_copyFrom_78 (by decide) ?_
  refine x_copyl (n := 6) (f := (wA wb).1.2.2.2.2.2.1) (σ' := (upA wA wa (((wA wb).1.1, (wA wb).1.2.1, (wA wb).1.2.2.1, (wA wb).1.2.2.2.1, (wA wb).1.2.2.2.2.1, (wA wb).1.2.2.2.2.2.1, uP.2.2.2.2.2.2), uC, uD, uJ, ur, ut, ud, ug), wY)) hc hw hl.1 ac_X4_35 (cb_6 hb hne) (ca_6 ha) ⟨by decide, by decide⟩ (sa_0_5 ha) ⟨Nat.le_of_ble_eq_true rfl, Nat.le_of_ble_eq_true rfl⟩ dX4_copyFrom_80 (fun H locs hw => ?_)
  refine lv_aload_n hx hb0 dX4_copyFrom_83 rfl (lv_at hl 1 rfl) ?_
  refine x_get (v := .ref (xAd κ (26 * wb + 7))) hc hw (cb_1 hb hne) fX4_32 rfl dX4_copyFrom_84 ?_
  refine lv_iconst (v := 0) hx hb0 dX4_copyFrom_87 (by decide) ?_
  refine lv_aload_n hx hb0 dX4_copyFrom_88 rfl (lv_at hl 0 rfl) ?_
  refine x_get (v := .ref (xAd κ (26 * wa + 7))) hc hw (ca_1 ha) fX4_32 rfl dX4_copyFrom_89 ?_
  refine lv_iconst (v := 0) hx hb0 dX4_copyFrom_92 (by decide) ?_
  refine lv_bipush (v := 6) hx hb0 dX4_copyFrom_93 (by decide) ?_
  refine x_copyl (n := 6) (f := (wA wb).1.2.2.2.2.2.2) (σ' := (upA wA wa (((wA wb).1.1, (wA wb).1.2.1, (wA wb).1.2.2.1, (wA wb).1.2.2.2.1, (wA wb).1.2.2.2.2.1, (wA wb).1.2.2.2.2.2.1, (wA wb).1.2.2.2.2.2.2), uC, uD, uJ, ur, ut, ud, ug), wY)) hc hw hl.1 ac_X4_35 (cb_7 hb hne) (ca_7 ha) ⟨by decide, by decide⟩ (sa_0_6 ha) ⟨Nat.le_of_ble_eq_true rfl, Nat.le_of_ble_eq_true rfl⟩ dX4_copyFrom_95 (fun H locs hw => ?_)
  exact K _ _ _ _ dX4_copyFrom_98 hw
set_option maxHeartbeats 4000000 in
set_option maxRecDepth 100000 in
theorem m_X1_copyFrom {l : Launch} {κ : xKt} {wA : Nat → sAcc} {wa wb : Nat} {wY : sTxt × sRng × sMai × sRef × sOut} (ha : wa < 9) (hb : wb < 9) (hne : wa ≠ wb) {uP : sPar} {uC : sCla} {uD : sDeb} {uJ : sJou} {ur : xF32} {ut : xF32} {ud : Int32} {ug : Int32} : xMv l κ yX1_copyFrom cX1_copyFrom 2 none (xR 0 0 0) [.ref (xAd κ (26 * wa + 8)), .ref (xAd κ (26 * wb + 8))] (upA wA wa (uP, uC, uD, uJ, ur, ut, ud, ug), wY) (upA wA wa (uP, (wA wb).2.1, uD, uJ, ur, ut, ud, ug), wY) := by
  refine xMv_of pn_X1 (Nat.le_of_ble_eq_true rfl) ⟨rfl, rfl⟩ ?_
  intro A p e s m args below meth c ls Q hc hw hl K
  have hc : xC κ A p s m args meth c cX1_copyFrom RX1 2 none := hc
  have hx := hc.1.1
  have hb0 := hc.1.2.1
  have hl : lv_has ls 2 [(0, .ref (xAd κ (26 * wa + 8))), (1, .ref (xAd κ (26 * wb + 8)))] := hl
  refine lv_aload_n hx hb0 dX1_copyFrom_0 rfl (lv_at hl 0 rfl) ?_
  refine lv_aload_n hx hb0 dX1_copyFrom_1 rfl (lv_at hl 1 rfl) ?_
  refine x_get (v := .int (wA wb).2.1.1) hc hw (cb_8 hb hne) fX1_9 rfl dX1_copyFrom_2 ?_
  refine x_put (σ' := (upA wA wa (uP, ((wA wb).2.1.1, uC.2.1, uC.2.2.1, uC.2.2.2.1, uC.2.2.2.2.1, uC.2.2.2.2.2.1, uC.2.2.2.2.2.2), uD, uJ, ur, ut, ud, ug), wY)) hc hw (ca_8 ha) fX1_9 rfl rfl (Nat.le_of_ble_eq_true rfl) (sa_1_0 ha) dX1_copyFrom_5 (fun H locs hw => ?_)
  refine lv_aload_n hx hb0 dX1_copyFrom_8 rfl (lv_at hl 1 rfl) ?_
  refine x_get (v := .ref (xAd κ (26 * wb + 9))) hc hw (cb_8 hb hne) fX1_15 rfl dX1_copyFrom_9 ?_
  refine lv_iconst (v := 0) hx hb0 dX1_copyFrom_12 (by decide) ?_
  refine lv_aload_n hx hb0 dX1_copyFrom_13 rfl (lv_at hl 0 rfl) ?_
  refine x_get (v := .ref (xAd κ (26 * wa + 9))) hc hw (ca_8 ha) fX1_15 rfl dX1_copyFrom_14 ?_
  refine lv_iconst (v := 0) hx hb0 dX1_copyFrom_17 (by decide) ?_
  refine lv_bipush (v := 12) hx hb0 dX1_copyFrom_18 (by decide) ?_
  refine x_copyi (n := 12) (f := (wA wb).2.1.2.1) (σ' := (upA wA wa (uP, ((wA wb).2.1.1, (wA wb).2.1.2.1, uC.2.2.1, uC.2.2.2.1, uC.2.2.2.2.1, uC.2.2.2.2.2.1, uC.2.2.2.2.2.2), uD, uJ, ur, ut, ud, ug), wY)) hc hw hl.1 ac_X1_34 (cb_9 hb hne) (ca_9 ha) ⟨by decide, by decide⟩ (sa_1_1 ha) ⟨Nat.le_of_ble_eq_true rfl, Nat.le_of_ble_eq_true rfl⟩ dX1_copyFrom_20 (fun H locs hw => ?_)
  refine lv_aload_n hx hb0 dX1_copyFrom_23 rfl (lv_at hl 1 rfl) ?_
  refine x_get (v := .ref (xAd κ (26 * wb + 10))) hc hw (cb_8 hb hne) fX1_19 rfl dX1_copyFrom_24 ?_
  refine lv_iconst (v := 0) hx hb0 dX1_copyFrom_27 (by decide) ?_
  refine lv_aload_n hx hb0 dX1_copyFrom_28 rfl (lv_at hl 0 rfl) ?_
  refine x_get (v := .ref (xAd κ (26 * wa + 10))) hc hw (ca_8 ha) fX1_19 rfl dX1_copyFrom_29 ?_
  refine lv_iconst (v := 0) hx hb0 dX1_copyFrom_32 (by decide) ?_
  refine lv_bipush (v := 12) hx hb0 dX1_copyFrom_33 (by decide) ?_
  refine x_copyi (n := 12) (f := (wA wb).2.1.2.2.1) (σ' := (upA wA wa (uP, ((wA wb).2.1.1, (wA wb).2.1.2.1, (wA wb).2.1.2.2.1, uC.2.2.2.1, uC.2.2.2.2.1, uC.2.2.2.2.2.1, uC.2.2.2.2.2.2), uD, uJ, ur, ut, ud, ug), wY)) hc hw hl.1 ac_X1_34 (cb_10 hb hne) (ca_10 ha) ⟨by decide, by decide⟩ (sa_1_2 ha) ⟨Nat.le_of_ble_eq_true rfl, Nat.le_of_ble_eq_true rfl⟩ dX1_copyFrom_35 (fun H locs hw => ?_)
  refine lv_aload_n hx hb0 dX1_copyFrom_38 rfl (lv_at hl 1 rfl) ?_
  refine x_get (v := .ref (xAd κ (26 * wb + 11))) hc hw (cb_8 hb hne) fX1_22 rfl dX1_copyFrom_39 ?_
  refine lv_iconst (v := 0) hx hb0 dX1_copyFrom_42 (by decide) ?_
  refine lv_aload_n hx hb0 dX1_copyFrom_43 rfl (lv_at hl 0 rfl) ?_
  refine x_get (v := .ref (xAd κ (26 * wa + 11))) hc hw (ca_8 ha) fX1_22 rfl dX1_copyFrom_44 ?_
  refine lv_iconst (v := 0) hx hb0 dX1_copyFrom_47 (by decide) ?_
  refine lv_bipush (v := 12) hx hb0 dX1_copyFrom_48 (by decide) ?_
  refine x_copyi (n := 12) (f := (wA wb).2.1.2.2.2.1) (σ' := (upA wA wa (uP, ((wA wb).2.1.1, (wA wb).2.1.2.1, (wA wb).2.1.2.2.1, (wA wb).2.1.2.2.2.1, uC.2.2.2.2.1, uC.2.2.2.2.2.1, uC.2.2.2.2.2.2), uD, uJ, ur, ut, ud, ug), wY)) hc hw hl.1 ac_X1_34 (cb_11 hb hne) (ca_11 ha) ⟨by decide, by decide⟩ (sa_1_3 ha) ⟨Nat.le_of_ble_eq_true rfl, Nat.le_of_ble_eq_true rfl⟩ dX1_copyFrom_50 (fun H locs hw => ?_)
  refine lv_aload_n hx hb0 dX1_copyFrom_53 rfl (lv_at hl 1 rfl) ?_
  refine x_get (v := .ref (xAd κ (26 * wb + 12))) hc hw (cb_8 hb hne) fX1_25 rfl dX1_copyFrom_54 ?_
  refine lv_iconst (v := 0) hx hb0 dX1_copyFrom_57 (by decide) ?_
  refine lv_aload_n hx hb0 dX1_copyFrom_58 rfl (lv_at hl 0 rfl) ?_
  refine x_get (v := .ref (xAd κ (26 * wa + 12))) hc hw (ca_8 ha) fX1_25 rfl dX1_copyFrom_59 ?_
  refine lv_iconst (v := 0) hx hb0 dX1_copyFrom_62 (by decide) ?_
  refine lv_bipush (v := 12) hx hb0 dX1_copyFrom_63 (by decide) ?_
  refine x_copyi (n := 12) (f := (wA wb).2.1.2.2.2.2.1) (σ' := (upA wA wa (uP, ((wA wb).2.1.1, (wA wb).2.1.2.1, (wA wb).2.1.2.2.1, (wA wb).2.1.2.2.2.1, (wA wb).2.1.2.2.2.2.1, uC.2.2.2.2.2.1, uC.2.2.2.2.2.2), uD, uJ, ur, ut, ud, ug), wY)) hc hw hl.1 ac_X1_34 (cb_12 hb hne) (ca_12 ha) ⟨by decide, by decide⟩ (sa_1_4 ha) ⟨Nat.le_of_ble_eq_true rfl, Nat.le_of_ble_eq_true rfl⟩ dX1_copyFrom_65 (fun H locs hw => ?_)
  refine lv_aload_n hx hb0 dX1_copyFrom_68 rfl (lv_at hl 1 rfl) ?_
  refine x_get (v := .ref (xAd κ (26 * wb + 13))) hc hw (cb_8 hb hne) fX1_28 rfl dX1_copyFrom_69 ?_
  refine lv_iconst (v := 0) hx hb0 dX1_copyFrom_72 (by decide) ?_
  refine lv_aload_n hx hb0 dX1_copyFrom_73 rfl (lv_at hl 0 rfl) ?_
  refine x_get (v := .ref (xAd κ (26 * wa + 13))) hc hw (ca_8 ha) fX1_28 rfl dX1_copyFrom_74 ?_
  refine lv_iconst (v := 0) hx hb0 dX1_copyFrom_77 (by decide) ?_
  refine lv_bipush (v := 12) hx hb0 dX1_copyFrom_78 (by decide) ?_
  refine x_copyi (n := 12) (f := (wA wb).2.1.2.2.2.2.2.1) (σ' := (upA wA wa (uP, ((wA wb).2.1.1, (wA wb).2.1.2.1, (wA wb).2.1.2.2.1, (wA wb).2.1.2.2.2.1, (wA wb).2.1.2.2.2.2.1, (wA wb).2.1.2.2.2.2.2.1, uC.2.2.2.2.2.2), uD, uJ, ur, ut, ud, ug), wY)) hc hw hl.1 ac_X1_34 (cb_13 hb hne) (ca_13 ha) ⟨by decide, by decide⟩ (sa_1_5 ha) ⟨Nat.le_of_ble_eq_true rfl, Nat.le_of_ble_eq_true rfl⟩ dX1_copyFrom_80 (fun H locs hw => ?_)
  refine lv_aload_n hx hb0 dX1_copyFrom_83 rfl (lv_at hl 1 rfl) ?_
  refine x_get (v := .ref (xAd κ (26 * wb + 14))) hc hw (cb_8 hb hne) fX1_31 rfl dX1_copyFrom_84 ?_
  refine lv_iconst (v := 0) hx hb0 dX1_copyFrom_87 (by decide) ?_
  refine lv_aload_n hx hb0 dX1_copyFrom_88 rfl (lv_at hl 0 rfl) ?_
  refine x_get (v := .ref (xAd κ (26 * wa + 14))) hc hw (ca_8 ha) fX1_31 rfl dX1_copyFrom_89 ?_
  refine lv_iconst (v := 0) hx hb0 dX1_copyFrom_92 (by decide) ?_
  refine lv_bipush (v := 12) hx hb0 dX1_copyFrom_93 (by decide) ?_
  refine x_copyi (n := 12) (f := (wA wb).2.1.2.2.2.2.2.2) (σ' := (upA wA wa (uP, ((wA wb).2.1.1, (wA wb).2.1.2.1, (wA wb).2.1.2.2.1, (wA wb).2.1.2.2.2.1, (wA wb).2.1.2.2.2.2.1, (wA wb).2.1.2.2.2.2.2.1, (wA wb).2.1.2.2.2.2.2.2), uD, uJ, ur, ut, ud, ug), wY)) hc hw hl.1 ac_X1_34 (cb_14 hb hne) (ca_14 ha) ⟨by decide, by decide⟩ (sa_1_6 ha) ⟨Nat.le_of_ble_eq_true rfl, Nat.le_of_ble_eq_true rfl⟩ dX1_copyFrom_95 (fun H locs hw => ?_)
  exact K _ _ _ _ dX1_copyFrom_98 hw
set_option maxHeartbeats 4000000 in
set_option maxRecDepth 100000 in
theorem m_X2_copyFrom {l : Launch} {κ : xKt} {wA : Nat → sAcc} {wa wb : Nat} {wY : sTxt × sRng × sMai × sRef × sOut} (ha : wa < 9) (hb : wb < 9) (hne : wa ≠ wb) {uP : sPar} {uC : sCla} {uD : sDeb} {uJ : sJou} {ur : xF32} {ut : xF32} {ud : Int32} {ug : Int32} : xMv l κ yX2_copyFrom cX2_copyFrom 2 none (xR 0 0 0) [.ref (xAd κ (26 * wa + 15)), .ref (xAd κ (26 * wb + 15))] (upA wA wa (uP, uC, uD, uJ, ur, ut, ud, ug), wY) (upA wA wa (uP, uC, (wA wb).2.2.1, uJ, ur, ut, ud, ug), wY) := by
  refine xMv_of pn_X2 (Nat.le_of_ble_eq_true rfl) ⟨rfl, rfl⟩ ?_
  intro A p e s m args below meth c ls Q hc hw hl K
  have hc : xC κ A p s m args meth c cX2_copyFrom RX2 2 none := hc
  have hx := hc.1.1
  have hb0 := hc.1.2.1
  have hl : lv_has ls 2 [(0, .ref (xAd κ (26 * wa + 15))), (1, .ref (xAd κ (26 * wb + 15)))] := hl
  refine lv_aload_n hx hb0 dX2_copyFrom_0 rfl (lv_at hl 0 rfl) ?_
  refine lv_aload_n hx hb0 dX2_copyFrom_1 rfl (lv_at hl 1 rfl) ?_
  refine x_get (v := .int (wA wb).2.2.1.1) hc hw (cb_15 hb hne) fX2_9 rfl dX2_copyFrom_2 ?_
  refine x_put (σ' := (upA wA wa (uP, uC, ((wA wb).2.2.1.1, uD.2.1, uD.2.2.1, uD.2.2.2.1, uD.2.2.2.2.1, uD.2.2.2.2.2), uJ, ur, ut, ud, ug), wY)) hc hw (ca_15 ha) fX2_9 rfl rfl (Nat.le_of_ble_eq_true rfl) (sa_2_0 ha) dX2_copyFrom_5 (fun H locs hw => ?_)
  refine lv_aload_n hx hb0 dX2_copyFrom_8 rfl (lv_at hl 1 rfl) ?_
  refine x_get (v := .ref (xAd κ (26 * wb + 16))) hc hw (cb_15 hb hne) fX2_15 rfl dX2_copyFrom_9 ?_
  refine lv_iconst (v := 0) hx hb0 dX2_copyFrom_12 (by decide) ?_
  refine lv_aload_n hx hb0 dX2_copyFrom_13 rfl (lv_at hl 0 rfl) ?_
  refine x_get (v := .ref (xAd κ (26 * wa + 16))) hc hw (ca_15 ha) fX2_15 rfl dX2_copyFrom_14 ?_
  refine lv_iconst (v := 0) hx hb0 dX2_copyFrom_17 (by decide) ?_
  refine lv_bipush (v := 30) hx hb0 dX2_copyFrom_18 (by decide) ?_
  refine x_copyi (n := 30) (f := (wA wb).2.2.1.2.1) (σ' := (upA wA wa (uP, uC, ((wA wb).2.2.1.1, (wA wb).2.2.1.2.1, uD.2.2.1, uD.2.2.2.1, uD.2.2.2.2.1, uD.2.2.2.2.2), uJ, ur, ut, ud, ug), wY)) hc hw hl.1 ac_X2_32 (cb_16 hb hne) (ca_16 ha) ⟨by decide, by decide⟩ (sa_2_1 ha) ⟨Nat.le_of_ble_eq_true rfl, Nat.le_of_ble_eq_true rfl⟩ dX2_copyFrom_20 (fun H locs hw => ?_)
  refine lv_aload_n hx hb0 dX2_copyFrom_23 rfl (lv_at hl 1 rfl) ?_
  refine x_get (v := .ref (xAd κ (26 * wb + 17))) hc hw (cb_15 hb hne) fX2_19 rfl dX2_copyFrom_24 ?_
  refine lv_iconst (v := 0) hx hb0 dX2_copyFrom_27 (by decide) ?_
  refine lv_aload_n hx hb0 dX2_copyFrom_28 rfl (lv_at hl 0 rfl) ?_
  refine x_get (v := .ref (xAd κ (26 * wa + 17))) hc hw (ca_15 ha) fX2_19 rfl dX2_copyFrom_29 ?_
  refine lv_iconst (v := 0) hx hb0 dX2_copyFrom_32 (by decide) ?_
  refine lv_bipush (v := 30) hx hb0 dX2_copyFrom_33 (by decide) ?_
  refine x_copyi (n := 30) (f := (wA wb).2.2.1.2.2.1) (σ' := (upA wA wa (uP, uC, ((wA wb).2.2.1.1, (wA wb).2.2.1.2.1, (wA wb).2.2.1.2.2.1, uD.2.2.2.1, uD.2.2.2.2.1, uD.2.2.2.2.2), uJ, ur, ut, ud, ug), wY)) hc hw hl.1 ac_X2_32 (cb_17 hb hne) (ca_17 ha) ⟨by decide, by decide⟩ (sa_2_2 ha) ⟨Nat.le_of_ble_eq_true rfl, Nat.le_of_ble_eq_true rfl⟩ dX2_copyFrom_35 (fun H locs hw => ?_)
  refine lv_aload_n hx hb0 dX2_copyFrom_38 rfl (lv_at hl 1 rfl) ?_
  refine x_get (v := .ref (xAd κ (26 * wb + 18))) hc hw (cb_15 hb hne) fX2_22 rfl dX2_copyFrom_39 ?_
  refine lv_iconst (v := 0) hx hb0 dX2_copyFrom_42 (by decide) ?_
  refine lv_aload_n hx hb0 dX2_copyFrom_43 rfl (lv_at hl 0 rfl) ?_
  refine x_get (v := .ref (xAd κ (26 * wa + 18))) hc hw (ca_15 ha) fX2_22 rfl dX2_copyFrom_44 ?_
  refine lv_iconst (v := 0) hx hb0 dX2_copyFrom_47 (by decide) ?_
  refine lv_bipush (v := 30) hx hb0 dX2_copyFrom_48 (by decide) ?_
  refine x_copyl (n := 30) (f := (wA wb).2.2.1.2.2.2.1) (σ' := (upA wA wa (uP, uC, ((wA wb).2.2.1.1, (wA wb).2.2.1.2.1, (wA wb).2.2.1.2.2.1, (wA wb).2.2.1.2.2.2.1, uD.2.2.2.2.1, uD.2.2.2.2.2), uJ, ur, ut, ud, ug), wY)) hc hw hl.1 ac_X2_32 (cb_18 hb hne) (ca_18 ha) ⟨by decide, by decide⟩ (sa_2_3 ha) ⟨Nat.le_of_ble_eq_true rfl, Nat.le_of_ble_eq_true rfl⟩ dX2_copyFrom_50 (fun H locs hw => ?_)
  refine lv_aload_n hx hb0 dX2_copyFrom_53 rfl (lv_at hl 1 rfl) ?_
  refine x_get (v := .ref (xAd κ (26 * wb + 19))) hc hw (cb_15 hb hne) fX2_26 rfl dX2_copyFrom_54 ?_
  refine lv_iconst (v := 0) hx hb0 dX2_copyFrom_57 (by decide) ?_
  refine lv_aload_n hx hb0 dX2_copyFrom_58 rfl (lv_at hl 0 rfl) ?_
  refine x_get (v := .ref (xAd κ (26 * wa + 19))) hc hw (ca_15 ha) fX2_26 rfl dX2_copyFrom_59 ?_
  refine lv_iconst (v := 0) hx hb0 dX2_copyFrom_62 (by decide) ?_
  refine lv_bipush (v := 30) hx hb0 dX2_copyFrom_63 (by decide) ?_
  refine x_copyl (n := 30) (f := (wA wb).2.2.1.2.2.2.2.1) (σ' := (upA wA wa (uP, uC, ((wA wb).2.2.1.1, (wA wb).2.2.1.2.1, (wA wb).2.2.1.2.2.1, (wA wb).2.2.1.2.2.2.1, (wA wb).2.2.1.2.2.2.2.1, uD.2.2.2.2.2), uJ, ur, ut, ud, ug), wY)) hc hw hl.1 ac_X2_32 (cb_19 hb hne) (ca_19 ha) ⟨by decide, by decide⟩ (sa_2_4 ha) ⟨Nat.le_of_ble_eq_true rfl, Nat.le_of_ble_eq_true rfl⟩ dX2_copyFrom_65 (fun H locs hw => ?_)
  refine lv_aload_n hx hb0 dX2_copyFrom_68 rfl (lv_at hl 1 rfl) ?_
  refine x_get (v := .ref (xAd κ (26 * wb + 20))) hc hw (cb_15 hb hne) fX2_29 rfl dX2_copyFrom_69 ?_
  refine lv_iconst (v := 0) hx hb0 dX2_copyFrom_72 (by decide) ?_
  refine lv_aload_n hx hb0 dX2_copyFrom_73 rfl (lv_at hl 0 rfl) ?_
  refine x_get (v := .ref (xAd κ (26 * wa + 20))) hc hw (ca_15 ha) fX2_29 rfl dX2_copyFrom_74 ?_
  refine lv_iconst (v := 0) hx hb0 dX2_copyFrom_77 (by decide) ?_
  refine lv_bipush (v := 30) hx hb0 dX2_copyFrom_78 (by decide) ?_
  refine x_copyl (n := 30) (f := (wA wb).2.2.1.2.2.2.2.2) (σ' := (upA wA wa (uP, uC, ((wA wb).2.2.1.1, (wA wb).2.2.1.2.1, (wA wb).2.2.1.2.2.1, (wA wb).2.2.1.2.2.2.1, (wA wb).2.2.1.2.2.2.2.1, (wA wb).2.2.1.2.2.2.2.2), uJ, ur, ut, ud, ug), wY)) hc hw hl.1 ac_X2_32 (cb_20 hb hne) (ca_20 ha) ⟨by decide, by decide⟩ (sa_2_5 ha) ⟨Nat.le_of_ble_eq_true rfl, Nat.le_of_ble_eq_true rfl⟩ dX2_copyFrom_80 (fun H locs hw => ?_)
  exact K _ _ _ _ dX2_copyFrom_83 hw
set_option maxHeartbeats 4000000 in
set_option maxRecDepth 100000 in
theorem m_X3_copyFrom {l : Launch} {κ : xKt} {wA : Nat → sAcc} {wa wb : Nat} {wY : sTxt × sRng × sMai × sRef × sOut} (ha : wa < 9) (hb : wb < 9) (hne : wa ≠ wb) {uP : sPar} {uC : sCla} {uD : sDeb} {uJ : sJou} {ur : xF32} {ut : xF32} {ud : Int32} {ug : Int32} : xMv l κ yX3_copyFrom cX3_copyFrom 2 none (xR 0 0 0) [.ref (xAd κ (26 * wa + 21)), .ref (xAd κ (26 * wb + 21))] (upA wA wa (uP, uC, uD, uJ, ur, ut, ud, ug), wY) (upA wA wa (uP, uC, uD, (wA wb).2.2.2.1, ur, ut, ud, ug), wY) := by
  refine xMv_of pn_X3 (Nat.le_of_ble_eq_true rfl) ⟨rfl, rfl⟩ ?_
  intro A p e s m args below meth c ls Q hc hw hl K
  have hc : xC κ A p s m args meth c cX3_copyFrom RX3 2 none := hc
  have hx := hc.1.1
  have hb0 := hc.1.2.1
  have hl : lv_has ls 2 [(0, .ref (xAd κ (26 * wa + 21))), (1, .ref (xAd κ (26 * wb + 21)))] := hl
  refine lv_aload_n hx hb0 dX3_copyFrom_0 rfl (lv_at hl 0 rfl) ?_
  refine lv_aload_n hx hb0 dX3_copyFrom_1 rfl (lv_at hl 1 rfl) ?_
  refine x_get (v := .int (wA wb).2.2.2.1.1) hc hw (cb_21 hb hne) fX3_9 rfl dX3_copyFrom_2 ?_
  refine x_put (σ' := (upA wA wa (uP, uC, uD, ((wA wb).2.2.2.1.1, uJ.2.1, uJ.2.2), ur, ut, ud, ug), wY)) hc hw (ca_21 ha) fX3_9 rfl rfl (Nat.le_of_ble_eq_true rfl) (sa_3_0 ha) dX3_copyFrom_5 (fun H locs hw => ?_)
  refine lv_aload_n hx hb0 dX3_copyFrom_8 rfl (lv_at hl 1 rfl) ?_
  refine x_get (v := .ref (xAd κ (26 * wb + 22))) hc hw (cb_21 hb hne) fX3_15 rfl dX3_copyFrom_9 ?_
  refine lv_iconst (v := 0) hx hb0 dX3_copyFrom_12 (by decide) ?_
  refine lv_aload_n hx hb0 dX3_copyFrom_13 rfl (lv_at hl 0 rfl) ?_
  refine x_get (v := .ref (xAd κ (26 * wa + 22))) hc hw (ca_21 ha) fX3_15 rfl dX3_copyFrom_14 ?_
  refine lv_iconst (v := 0) hx hb0 dX3_copyFrom_17 (by decide) ?_
  refine lv_bipush (v := 16) hx hb0 dX3_copyFrom_18 (by decide) ?_
  refine x_copyi (n := 16) (f := (wA wb).2.2.2.1.2.1) (σ' := (upA wA wa (uP, uC, uD, ((wA wb).2.2.2.1.1, (wA wb).2.2.2.1.2.1, uJ.2.2), ur, ut, ud, ug), wY)) hc hw hl.1 ac_X3_23 (cb_22 hb hne) (ca_22 ha) ⟨by decide, by decide⟩ (sa_3_1 ha) ⟨Nat.le_of_ble_eq_true rfl, Nat.le_of_ble_eq_true rfl⟩ dX3_copyFrom_20 (fun H locs hw => ?_)
  refine lv_aload_n hx hb0 dX3_copyFrom_23 rfl (lv_at hl 1 rfl) ?_
  refine x_get (v := .ref (xAd κ (26 * wb + 23))) hc hw (cb_21 hb hne) fX3_19 rfl dX3_copyFrom_24 ?_
  refine lv_iconst (v := 0) hx hb0 dX3_copyFrom_27 (by decide) ?_
  refine lv_aload_n hx hb0 dX3_copyFrom_28 rfl (lv_at hl 0 rfl) ?_
  refine x_get (v := .ref (xAd κ (26 * wa + 23))) hc hw (ca_21 ha) fX3_19 rfl dX3_copyFrom_29 ?_
  refine lv_iconst (v := 0) hx hb0 dX3_copyFrom_32 (by decide) ?_
  refine lv_bipush (v := 16) hx hb0 dX3_copyFrom_33 (by decide) ?_
  refine x_copyl (n := 16) (f := (wA wb).2.2.2.1.2.2) (σ' := (upA wA wa (uP, uC, uD, ((wA wb).2.2.2.1.1, (wA wb).2.2.2.1.2.1, (wA wb).2.2.2.1.2.2), ur, ut, ud, ug), wY)) hc hw hl.1 ac_X3_23 (cb_23 hb hne) (ca_23 ha) ⟨by decide, by decide⟩ (sa_3_2 ha) ⟨Nat.le_of_ble_eq_true rfl, Nat.le_of_ble_eq_true rfl⟩ dX3_copyFrom_35 (fun H locs hw => ?_)
  exact K _ _ _ _ dX3_copyFrom_38 hw
set_option maxHeartbeats 4000000 in
set_option maxRecDepth 100000 in
theorem m_X0_copyFrom0 {l : Launch} {κ : xKt} {wA : Nat → sAcc} {wa wb : Nat} {wY : sTxt × sRng × sMai × sRef × sOut} (ha : wa < 9) (hb : wb < 9) (hne : wa ≠ wb) {uP : sPar} {uC : sCla} {uD : sDeb} {uJ : sJou} {ur : xF32} {ut : xF32} {ud : Int32} {ug : Int32} : xMv l κ yX0_copyFrom cX0_copyFrom 2 none (xR 1 0 0) [.ref (xAd κ (26 * wa)), .ref (xAd κ (26 * wb))] (upA wA wa (uP, uC, uD, uJ, ur, ut, ud, ug), wY) (upA wA wa (wA wb), wY) := by
  refine xMv_of pn_X0 (Nat.le_of_ble_eq_true rfl) ⟨rfl, rfl⟩ ?_
  intro A p e s m args below meth c ls Q hc hw hl K
  have hc : xC κ A p s m args meth c cX0_copyFrom RX0 2 none := hc
  have hx := hc.1.1
  have hb0 := hc.1.2.1
  have hl : lv_has ls 2 [(0, .ref (xAd κ (26 * wa))), (1, .ref (xAd κ (26 * wb)))] := hl
  refine lv_aload_n hx hb0 dX0_copyFrom_0 rfl (lv_at hl 0 rfl) ?_
  refine x_get (v := .ref (xAd κ (26 * wa + 1))) hc hw (ca_0 ha) fX0_12 rfl dX0_copyFrom_1 ?_
  refine lv_aload_n hx hb0 dX0_copyFrom_4 rfl (lv_at hl 1 rfl) ?_
  refine x_get (v := .ref (xAd κ (26 * wb + 1))) hc hw (cb_0 hb hne) fX0_12 rfl dX0_copyFrom_5 ?_
  refine x_callvV (As := [.ref (xAd κ (26 * wb + 1))]) (rest := []) (σ' := (upA wA wa ((wA wb).1, uC, uD, uJ, ur, ut, ud, ug), wY)) hc hw hl.1 (m_X4_copyFrom ha hb hne) kX0_76 (ca_1 ha) rfl rfl ⟨rfl, rfl⟩ ⟨Nat.le_of_ble_eq_true rfl, Nat.le_of_ble_eq_true rfl⟩ ⟨Nat.zero_le _, Nat.zero_le _⟩ (Nat.le_of_ble_eq_true rfl) dX0_copyFrom_8 (fun H locs hw => ?_)
  refine lv_aload_n hx hb0 dX0_copyFrom_11 rfl (lv_at hl 0 rfl) ?_
  refine x_get (v := .ref (xAd κ (26 * wa + 8))) hc hw (ca_0 ha) fX0_21 rfl dX0_copyFrom_12 ?_
  refine lv_aload_n hx hb0 dX0_copyFrom_15 rfl (lv_at hl 1 rfl) ?_
  refine x_get (v := .ref (xAd κ (26 * wb + 8))) hc hw (cb_0 hb hne) fX0_21 rfl dX0_copyFrom_16 ?_
  refine x_callvV (As := [.ref (xAd κ (26 * wb + 8))]) (rest := []) (σ' := (upA wA wa ((wA wb).1, (wA wb).2.1, uD, uJ, ur, ut, ud, ug), wY)) hc hw hl.1 (m_X1_copyFrom ha hb hne) kX0_80 (ca_8 ha) rfl rfl ⟨rfl, rfl⟩ ⟨Nat.le_of_ble_eq_true rfl, Nat.le_of_ble_eq_true rfl⟩ ⟨Nat.zero_le _, Nat.zero_le _⟩ (Nat.le_of_ble_eq_true rfl) dX0_copyFrom_19 (fun H locs hw => ?_)
  refine lv_aload_n hx hb0 dX0_copyFrom_22 rfl (lv_at hl 0 rfl) ?_
  refine x_get (v := .ref (xAd κ (26 * wa + 15))) hc hw (ca_0 ha) fX0_28 rfl dX0_copyFrom_23 ?_
  refine lv_aload_n hx hb0 dX0_copyFrom_26 rfl (lv_at hl 1 rfl) ?_
  refine x_get (v := .ref (xAd κ (26 * wb + 15))) hc hw (cb_0 hb hne) fX0_28 rfl dX0_copyFrom_27 ?_
  refine x_callvV (As := [.ref (xAd κ (26 * wb + 15))]) (rest := []) (σ' := (upA wA wa ((wA wb).1, (wA wb).2.1, (wA wb).2.2.1, uJ, ur, ut, ud, ug), wY)) hc hw hl.1 (m_X2_copyFrom ha hb hne) kX0_83 (ca_15 ha) rfl rfl ⟨rfl, rfl⟩ ⟨Nat.le_of_ble_eq_true rfl, Nat.le_of_ble_eq_true rfl⟩ ⟨Nat.zero_le _, Nat.zero_le _⟩ (Nat.le_of_ble_eq_true rfl) dX0_copyFrom_30 (fun H locs hw => ?_)
  refine lv_aload_n hx hb0 dX0_copyFrom_33 rfl (lv_at hl 0 rfl) ?_
  refine x_get (v := .ref (xAd κ (26 * wa + 21))) hc hw (ca_0 ha) fX0_35 rfl dX0_copyFrom_34 ?_
  refine lv_aload_n hx hb0 dX0_copyFrom_37 rfl (lv_at hl 1 rfl) ?_
  refine x_get (v := .ref (xAd κ (26 * wb + 21))) hc hw (cb_0 hb hne) fX0_35 rfl dX0_copyFrom_38 ?_
  refine x_callvV (As := [.ref (xAd κ (26 * wb + 21))]) (rest := []) (σ' := (upA wA wa ((wA wb).1, (wA wb).2.1, (wA wb).2.2.1, (wA wb).2.2.2.1, ur, ut, ud, ug), wY)) hc hw hl.1 (m_X3_copyFrom ha hb hne) kX0_86 (ca_21 ha) rfl rfl ⟨rfl, rfl⟩ ⟨Nat.le_of_ble_eq_true rfl, Nat.le_of_ble_eq_true rfl⟩ ⟨Nat.zero_le _, Nat.zero_le _⟩ (Nat.le_of_ble_eq_true rfl) dX0_copyFrom_41 (fun H locs hw => ?_)
  refine lv_aload_n hx hb0 dX0_copyFrom_44 rfl (lv_at hl 1 rfl) ?_
  refine x_get (v := .ref (xAd κ (26 * wb + 24))) hc hw (cb_0 hb hne) fX0_48 rfl dX0_copyFrom_45 ?_
  refine lv_iconst (v := 0) hx hb0 dX0_copyFrom_48 (by decide) ?_
  refine lv_aload_n hx hb0 dX0_copyFrom_49 rfl (lv_at hl 0 rfl) ?_
  refine x_get (v := .ref (xAd κ (26 * wa + 24))) hc hw (ca_0 ha) fX0_48 rfl dX0_copyFrom_50 ?_
  refine lv_iconst (v := 0) hx hb0 dX0_copyFrom_53 (by decide) ?_
  refine lv_iconst (v := 4) hx hb0 dX0_copyFrom_54 (by decide) ?_
  refine x_copyi (n := 4) (f := (wA wb).2.2.2.2.1) (σ' := (upA wA wa ((wA wb).1, (wA wb).2.1, (wA wb).2.2.1, (wA wb).2.2.2.1, (wA wb).2.2.2.2.1, ut, ud, ug), wY)) hc hw hl.1 ac_X0_70 (cb_24 hb hne) (ca_24 ha) ⟨by decide, by decide⟩ (sa_4_0 ha) ⟨Nat.le_of_ble_eq_true rfl, Nat.le_of_ble_eq_true rfl⟩ dX0_copyFrom_55 (fun H locs hw => ?_)
  refine lv_aload_n hx hb0 dX0_copyFrom_58 rfl (lv_at hl 1 rfl) ?_
  refine x_get (v := .ref (xAd κ (26 * wb + 25))) hc hw (cb_0 hb hne) fX0_54 rfl dX0_copyFrom_59 ?_
  refine lv_iconst (v := 0) hx hb0 dX0_copyFrom_62 (by decide) ?_
  refine lv_aload_n hx hb0 dX0_copyFrom_63 rfl (lv_at hl 0 rfl) ?_
  refine x_get (v := .ref (xAd κ (26 * wa + 25))) hc hw (ca_0 ha) fX0_54 rfl dX0_copyFrom_64 ?_
  refine lv_iconst (v := 0) hx hb0 dX0_copyFrom_67 (by decide) ?_
  refine lv_iconst (v := 4) hx hb0 dX0_copyFrom_68 (by decide) ?_
  refine x_copyi (n := 4) (f := (wA wb).2.2.2.2.2.1) (σ' := (upA wA wa ((wA wb).1, (wA wb).2.1, (wA wb).2.2.1, (wA wb).2.2.2.1, (wA wb).2.2.2.2.1, (wA wb).2.2.2.2.2.1, ud, ug), wY)) hc hw hl.1 ac_X0_70 (cb_25 hb hne) (ca_25 ha) ⟨by decide, by decide⟩ (sa_5_0 ha) ⟨Nat.le_of_ble_eq_true rfl, Nat.le_of_ble_eq_true rfl⟩ dX0_copyFrom_69 (fun H locs hw => ?_)
  refine lv_aload_n hx hb0 dX0_copyFrom_72 rfl (lv_at hl 0 rfl) ?_
  refine lv_aload_n hx hb0 dX0_copyFrom_73 rfl (lv_at hl 1 rfl) ?_
  refine x_get (v := .int (wA wb).2.2.2.2.2.2.1) hc hw (cb_0 hb hne) fX0_57 rfl dX0_copyFrom_74 ?_
  refine x_put (σ' := (upA wA wa ((wA wb).1, (wA wb).2.1, (wA wb).2.2.1, (wA wb).2.2.2.1, (wA wb).2.2.2.2.1, (wA wb).2.2.2.2.2.1, (wA wb).2.2.2.2.2.2.1, ug), wY)) hc hw (ca_0 ha) fX0_57 rfl rfl (Nat.le_of_ble_eq_true rfl) (sa_6_0 ha) dX0_copyFrom_77 (fun H locs hw => ?_)
  refine lv_aload_n hx hb0 dX0_copyFrom_80 rfl (lv_at hl 0 rfl) ?_
  refine lv_aload_n hx hb0 dX0_copyFrom_81 rfl (lv_at hl 1 rfl) ?_
  refine x_get (v := .int (wA wb).2.2.2.2.2.2.2) hc hw (cb_0 hb hne) fX0_61 rfl dX0_copyFrom_82 ?_
  refine x_put (σ' := (upA wA wa ((wA wb).1, (wA wb).2.1, (wA wb).2.2.1, (wA wb).2.2.2.1, (wA wb).2.2.2.2.1, (wA wb).2.2.2.2.2.1, (wA wb).2.2.2.2.2.2.1, (wA wb).2.2.2.2.2.2.2), wY)) hc hw (ca_0 ha) fX0_61 rfl rfl (Nat.le_of_ble_eq_true rfl) (sa_7_0 ha) dX0_copyFrom_85 (fun H locs hw => ?_)
  exact K _ _ _ _ dX0_copyFrom_88 hw
theorem m_X0_copyFrom {l : Launch} {κ : xKt} {wA : Nat → sAcc} {wa wb : Nat} {wY : sTxt × sRng × sMai × sRef × sOut} (ha : wa < 9) (hb : wb < 9) (hne : wa ≠ wb) : xMv l κ yX0_copyFrom cX0_copyFrom 2 none (xR 1 0 0) [.ref (xAd κ (26 * wa)), .ref (xAd κ (26 * wb))] (wA, wY) (upA wA wa (wA wb), wY) := by
  have h := m_X0_copyFrom0 (l := l) (κ := κ) (wA := wA) (wY := wY) ha hb hne (uP := (wA wa).1) (uC := (wA wa).2.1) (uD := (wA wa).2.2.1) (uJ := (wA wa).2.2.2.1) (ur := (wA wa).2.2.2.2.1) (ut := (wA wa).2.2.2.2.2.1) (ud := (wA wa).2.2.2.2.2.2.1) (ug := (wA wa).2.2.2.2.2.2.2)
  have e : upA wA wa ((wA wa).1, (wA wa).2.1, (wA wa).2.2.1, (wA wa).2.2.2.1, (wA wa).2.2.2.2.1, (wA wa).2.2.2.2.2.1, (wA wa).2.2.2.2.2.2.1, (wA wa).2.2.2.2.2.2.2) = wA := upA_self
  rw [e] at h
  exact h
