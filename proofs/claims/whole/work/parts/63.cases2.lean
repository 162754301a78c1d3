set_option maxHeartbeats 4000000 in
set_option maxRecDepth 100000 in
theorem q_20 {l : Launch} {κ : xKt} {fu : Nat} {a1 a2 a3 : Int32} {uA : Nat → sAcc} {uP : sPar} {uC : sCla} {uD : sDeb} {uJ : sJou} {ur : xF32} {ut : xF32} {ud : Int32} {ug : Int32} {uT0 : Int32} {uT1 : xF32} {uT2 : Int32} {uT3 : Int32} {uT4 : Int32} {uT5 : xF32} {uT6 : xF32} {uT7 : xF32} {uT8 : xF32} {uG0 : Int32} {uG1 : xF32} {uG2 : xF32} {uM0 : Int32} {uM1 : Int32} {uM2 : Int32} {uM3 : Int32} {uM4 : Int32} {uF0 : Int32} {uF1 : xF64} {uF2 : xF64} {uF3 : xF64} {uF4 : xF64} {uF5 : Int32} {uF6 : Int32} {uF7 : Int32} {uF8 : xF32} {uF9 : Int32} {uF10 : Int32} {uF11 : Int64} {uF12 : xF32} {uF13 : Int32} {uF14 : Int32} {uF15 : Int32} {uF16 : xF32} {uF17 : xF32} {uF18 : Int32} {uo : xF64} {uv : Nat → UInt64} {yF0 : Int32} {yo : xF64} {A : Nat → Prop} {p : Program} {e : Env} {s : State} {m : MethodId} {args : Array Value} {below : List Frame} {meth : Method} {c : Code} {Q : State → Prop} {b L i kc ks : Nat} {xs : Nat → Int32}
    (hc : xC κ A p s m args meth c cL_law RL 9 (some .boolean)) (hlt : l.stackTraces = false) (hX : va_X b L xs s s.heap) (hbl : b < s.heap.size) (hbA : ¬ A b) (h1 : vp_in ((nI i) + 1) L) (h2 : vp_in ((nI i) + 2) L) (h3 : vp_in ((nI i) + 3) L) (e1 : xs ((nI i) + 1).toNatClampNeg = a1) (e2 : xs ((nI i) + 2).toNatClampNeg = a2) (e3 : xs ((nI i) + 3).toNatClampNeg = a3) (hz0 : kc ≤ room_1.cells ∧ ks ≤ room_1.slots) (hz1 : kc + 1 ≤ room_1.cells ∧ ks + 6 ≤ room_1.slots)
    (hf : f_C_20 fu a1 a2 uP uD uF0 uF1 uo = some (yF0, yo))
    (K : ∀ (H : Heap) (locs : List Loc) (ls : Array Slot), xW κ A s (upA uA 0 (uP, uC, uD, uJ, ur, ut, ud, ug), (uT0, uT1, uT2, uT3, uT4, uT5, uT6, uT7, uT8), (uG0, uG1, uG2), (uM0, uM1, uM2, uM3, uM4), (yF0, uF1, uF2, uF3, uF4, uF5, uF6, uF7, uF8, uF9, uF10, uF11, uF12, uF13, uF14, uF15, uF16, uF17, uF18), yo, uv) H locs → lv_has ls 9 [(0, .ref b), (1, .ref (xAd κ 234)), (2, .ref (xAd κ 245)), (3, .ref (xAd κ 254)), (4, .ref (xAd κ 255)), (5, .int (nI i))] → W p l e room_1 s m args below meth c H locs (kc + 1) (ks + 6) Q (F0 m 2367 ls [])) :
    ∀ (H : Heap) (locs : List Loc) (ls : Array Slot), xW κ A s (upA uA 0 (uP, uC, uD, uJ, ur, ut, ud, ug), (uT0, uT1, uT2, uT3, uT4, uT5, uT6, uT7, uT8), (uG0, uG1, uG2), (uM0, uM1, uM2, uM3, uM4), (uF0, uF1, uF2, uF3, uF4, uF5, uF6, uF7, uF8, uF9, uF10, uF11, uF12, uF13, uF14, uF15, uF16, uF17, uF18), uo, uv) H locs → lv_has ls 9 [(0, .ref b), (1, .ref (xAd κ 234)), (2, .ref (xAd κ 245)), (3, .ref (xAd κ 254)), (4, .ref (xAd κ 255)), (5, .int (nI i))] → W p l e room_1 s m args below meth c H locs kc ks Q (F0 m 1333 ls []) := by
  have hx := hc.1.1
  have hb := hc.1.2.1
  intro H locs ls hw hl
  unfold f_C_20 at hf
  refine lv_aload_n hx hb dL_law_1333 rfl (lv_at hl 1 rfl) ?_
  refine lv_aload_n hx hb dL_law_1334 rfl (lv_at hl 0 rfl) ?_
  refine lv_iload hx hb dL_law_1335 (lv_at hl 5 rfl) ?_
  refine lv_iconst (v := 1) hx hb dL_law_1337 (by decide) ?_
  refine lv_iadd hx hb dL_law_1338 ?_
  refine va_sld hx hb hX hbl hbA hw.2 h1 dL_law_1339 ?_
  rw [e1]
  refine lv_aload_n hx hb dL_law_1340 rfl (lv_at hl 0 rfl) ?_
  refine lv_iload hx hb dL_law_1341 (lv_at hl 5 rfl) ?_
  refine lv_iconst (v := 2) hx hb dL_law_1343 (by decide) ?_
  refine lv_iadd hx hb dL_law_1344 ?_
  refine va_sld hx hb hX hbl hbA hw.2 h2 dL_law_1345 ?_
  rw [e2]
  refine lv_aload_n hx hb dL_law_1346 rfl (lv_at hl 3 rfl) ?_
  obtain ⟨v1, uo_2, h3, hf⟩ := xb2_of hf
  refine x_hcalliS (As := [.ref (xAd κ 234), .int a1, .int a2, .ref (xAd κ 254)]) (rest := []) (σ' := (upA uA 0 (uP, uC, uD, uJ, ur, ut, ud, ug), (uT0, uT1, uT2, uT3, uT4, uT5, uT6, uT7, uT8), (uG0, uG1, uG2), (uM0, uM1, uM2, uM3, uM4), (uF0, uF1, uF2, uF3, uF4, uF5, uF6, uF7, uF8, uF9, uF10, uF11, uF12, uF13, uF14, uF15, uF16, uF17, uF18), uo_2, uv)) hc hw hl.1 hlt (m_L_owed h3) kL_210 rfl rfl ⟨rfl, rfl⟩ ⟨Nat.le_of_ble_eq_true rfl, Nat.le_of_ble_eq_true rfl⟩ hz1 (Nat.le_of_ble_eq_true rfl) dL_law_1347 (fun H locs hw => ?_)
  refine lv_istore (lv' := [(6, .int v1), (0, .ref b), (1, .ref (xAd κ 234)), (2, .ref (xAd κ 245)), (3, .ref (xAd κ 254)), (4, .ref (xAd κ 255)), (5, .int (nI i))]) hx hb dL_law_1350 hl (by decide) rfl (fun ls hl => ?_)
  refine lv_aload_n hx hb dL_law_1352 rfl (lv_at hl 3 rfl) ?_
  refine lv_aload_n hx hb dL_law_1353 rfl (lv_at hl 1 rfl) ?_
  refine lv_iload hx hb dL_law_1354 (lv_at hl 6 rfl) ?_
  refine lv_iconst (v := 1) hx hb dL_law_1356 (by decide) ?_
  refine lv_iadd hx hb dL_law_1357 ?_
  refine va_sld hx hb hX hbl hbA hw.2 h1 dL_law_1358 ?_
  rw [e1]
  refine lv_aload_n hx hb dL_law_1359 rfl (lv_at hl 1 rfl) ?_
  refine lv_iload hx hb dL_law_1360 (lv_at hl 6 rfl) ?_
  refine lv_iconst (v := 2) hx hb dL_law_1362 (by decide) ?_
  refine lv_iadd hx hb dL_law_1363 ?_
  refine va_sld hx hb hX hbl hbA hw.2 h2 dL_law_1364 ?_
  rw [e2]
  obtain ⟨v4, uF0_5, h6, hf⟩ := xb2_of hf
  refine x_calllV (As := [.int a1, .int a2]) (rest := []) (σ' := (upA uA 0 (uP, uC, uD, uJ, ur, ut, ud, ug), (uT0, uT1, uT2, uT3, uT4, uT5, uT6, uT7, uT8), (uG0, uG1, uG2), (uM0, uM1, uM2, uM3, uM4), (uF0_5, uF1, uF2, uF3, uF4, uF5, uF6, uF7, uF8, uF9, uF10, uF11, uF12, uF13, uF14, uF15, uF16, uF17, uF18), uo_2, uv)) hc hw hl.1 (m_X8_owed h6) kL_212 co_245 rfl rfl ⟨rfl, rfl⟩ ⟨Nat.le_of_ble_eq_true rfl, Nat.le_of_ble_eq_true rfl⟩ hz1 (Nat.le_of_ble_eq_true rfl) dL_law_1365 (fun H locs hw => ?_)
  refine lv_lstore (lv' := [(7, .long v4), (6, .int v1), (0, .ref b), (1, .ref (xAd κ 234)), (2, .ref (xAd κ 245)), (3, .ref (xAd κ 254)), (4, .ref (xAd κ 255)), (5, .int (nI i))]) hx hb dL_law_1368 hl (by decide) rfl (fun ls hl => ?_)
  refine lv_aload_n hx hb dL_law_1370 rfl (lv_at hl 4 rfl) ?_
  obtain ⟨v7, h8, hf⟩ := xb1_of hf
  refine x_calliV (As := []) (rest := []) (σ' := (upA uA 0 (uP, uC, uD, uJ, ur, ut, ud, ug), (uT0, uT1, uT2, uT3, uT4, uT5, uT6, uT7, uT8), (uG0, uG1, uG2), (uM0, uM1, uM2, uM3, uM4), (uF0_5, uF1, uF2, uF3, uF4, uF5, uF6, uF7, uF8, uF9, uF10, uF11, uF12, uF13, uF14, uF15, uF16, uF17, uF18), uo_2, uv)) hc hw hl.1 (m_X8_thrown h8) kL_148 co_245 rfl rfl ⟨rfl, rfl⟩ ⟨Nat.le_of_ble_eq_true rfl, Nat.le_of_ble_eq_true rfl⟩ hz1 (Nat.le_of_ble_eq_true rfl) dL_law_1371 (fun H locs hw => ?_)
  refine lv_iload hx hb dL_law_1374 (lv_at hl 1 rfl) ?_
  refine lv_icmp_eq (tgt := 1381) hx hb dL_law_1376 (by decide) (fun c9 => ?_) (fun c9 => ?_)
  · have hf := xif_t c9 hf
    refine lv_iload hx hb dL_law_1381 (lv_at hl 1 rfl) ?_
    refine lv_if_ne (tgt := 1397) hx hb dL_law_1383 (by decide) (fun c10 => ?_) (fun c10 => ?_)
    · have hf := xif_f c10 hf
      refine lv_goto (tgt := 2367) hx hb dL_law_1397 (by decide) ?_
      cases hf
      exact K _ _ _ hw (lv_sub hl [2, 3, 4, 5, 6, 7] rfl)
    · have hf := xif_t c10 hf
      refine lv_aload_n hx hb dL_law_1386 rfl (lv_at hl 5 rfl) ?_
      refine lv_iconst (v := 0) hx hb dL_law_1387 (by decide) ?_
      obtain ⟨k11, hf⟩ := xk_of hf
      refine x_lald (n := 1) (f := uo_2) hc hw co_254 k11 dL_law_1388 ?_
      refine lv_lload hx hb dL_law_1389 (lv_at hl 0 rfl) ?_
      refine x_lcmp_eq (tgt := 1397) hx hb dL_law_1391 dL_law_1392 (by decide) (fun c12 => ?_) (fun c12 => ?_)
      · have hf := xif_t c12 hf
        refine lv_goto (tgt := 2367) hx hb dL_law_1397 (by decide) ?_
        cases hf
        exact K _ _ _ hw (lv_sub hl [2, 3, 4, 5, 6, 7] rfl)
      · have hf := xif_f c12 hf
        refine lv_iconst (v := 0) hx hb dL_law_1395 (by decide) ?_
        cases hf
  · have hf := xif_f c9 hf
    refine lv_iconst (v := 0) hx hb dL_law_1379 (by decide) ?_
    cases hf
set_option maxHeartbeats 4000000 in
set_option maxRecDepth 100000 in
theorem q_21 {l : Launch} {κ : xKt} {fu : Nat} {a1 a2 a3 : Int32} {uA : Nat → sAcc} {uP : sPar} {uC : sCla} {uD : sDeb} {uJ : sJou} {ur : xF32} {ut : xF32} {ud : Int32} {ug : Int32} {uT0 : Int32} {uT1 : xF32} {uT2 : Int32} {uT3 : Int32} {uT4 : Int32} {uT5 : xF32} {uT6 : xF32} {uT7 : xF32} {uT8 : xF32} {uG0 : Int32} {uG1 : xF32} {uG2 : xF32} {uM0 : Int32} {uM1 : Int32} {uM2 : Int32} {uM3 : Int32} {uM4 : Int32} {uF0 : Int32} {uF1 : xF64} {uF2 : xF64} {uF3 : xF64} {uF4 : xF64} {uF5 : Int32} {uF6 : Int32} {uF7 : Int32} {uF8 : xF32} {uF9 : Int32} {uF10 : Int32} {uF11 : Int64} {uF12 : xF32} {uF13 : Int32} {uF14 : Int32} {uF15 : Int32} {uF16 : xF32} {uF17 : xF32} {uF18 : Int32} {uo : xF64} {uv : Nat → UInt64} {yM3 : Int32} {yF0 : Int32} {yo : xF64} {A : Nat → Prop} {p : Program} {e : Env} {s : State} {m : MethodId} {args : Array Value} {below : List Frame} {meth : Method} {c : Code} {Q : State → Prop} {b L i kc ks : Nat} {xs : Nat → Int32}
    (hc : xC κ A p s m args meth c cL_law RL 9 (some .boolean)) (hlt : l.stackTraces = false) (hX : va_X b L xs s s.heap) (hbl : b < s.heap.size) (hbA : ¬ A b) (h1 : vp_in ((nI i) + 1) L) (h2 : vp_in ((nI i) + 2) L) (h3 : vp_in ((nI i) + 3) L) (e1 : xs ((nI i) + 1).toNatClampNeg = a1) (e2 : xs ((nI i) + 2).toNatClampNeg = a2) (e3 : xs ((nI i) + 3).toNatClampNeg = a3) (hz0 : kc ≤ room_1.cells ∧ ks ≤ room_1.slots) (hz1 : kc + 1 ≤ room_1.cells ∧ ks + 6 ≤ room_1.slots)
    (hf : f_C_21 fu a1 a2 uD uM3 uF0 uF1 uo = some (yM3, yF0, yo))
    (K : ∀ (H : Heap) (locs : List Loc) (ls : Array Slot), xW κ A s (upA uA 0 (uP, uC, uD, uJ, ur, ut, ud, ug), (uT0, uT1, uT2, uT3, uT4, uT5, uT6, uT7, uT8), (uG0, uG1, uG2), (uM0, uM1, uM2, yM3, uM4), (yF0, uF1, uF2, uF3, uF4, uF5, uF6, uF7, uF8, uF9, uF10, uF11, uF12, uF13, uF14, uF15, uF16, uF17, uF18), yo, uv) H locs → lv_has ls 9 [(0, .ref b), (1, .ref (xAd κ 234)), (2, .ref (xAd κ 245)), (3, .ref (xAd κ 254)), (4, .ref (xAd κ 255)), (5, .int (nI i))] → W p l e room_1 s m args below meth c H locs (kc + 1) (ks + 6) Q (F0 m 2367 ls [])) :
    ∀ (H : Heap) (locs : List Loc) (ls : Array Slot), xW κ A s (upA uA 0 (uP, uC, uD, uJ, ur, ut, ud, ug), (uT0, uT1, uT2, uT3, uT4, uT5, uT6, uT7, uT8), (uG0, uG1, uG2), (uM0, uM1, uM2, uM3, uM4), (uF0, uF1, uF2, uF3, uF4, uF5, uF6, uF7, uF8, uF9, uF10, uF11, uF12, uF13, uF14, uF15, uF16, uF17, uF18), uo, uv) H locs → lv_has ls 9 [(0, .ref b), (1, .ref (xAd κ 234)), (2, .ref (xAd κ 245)), (3, .ref (xAd κ 254)), (4, .ref (xAd κ 255)), (5, .int (nI i))] → W p l e room_1 s m args below meth c H locs kc ks Q (F0 m 1400 ls []) := by
  have hx := hc.1.1
  have hb := hc.1.2.1
  intro H locs ls hw hl
  unfold f_C_21 at hf
  refine lv_aload_n hx hb dL_law_1400 rfl (lv_at hl 1 rfl) ?_
  refine lv_aload_n hx hb dL_law_1401 rfl (lv_at hl 0 rfl) ?_
  refine lv_iload hx hb dL_law_1402 (lv_at hl 5 rfl) ?_
  refine lv_iconst (v := 1) hx hb dL_law_1404 (by decide) ?_
  refine lv_iadd hx hb dL_law_1405 ?_
  refine va_sld hx hb hX hbl hbA hw.2 h1 dL_law_1406 ?_
  rw [e1]
  refine lv_aload_n hx hb dL_law_1407 rfl (lv_at hl 0 rfl) ?_
  refine lv_iload hx hb dL_law_1408 (lv_at hl 5 rfl) ?_
  refine lv_iconst (v := 2) hx hb dL_law_1410 (by decide) ?_
  refine lv_iadd hx hb dL_law_1411 ?_
  refine va_sld hx hb hX hbl hbA hw.2 h2 dL_law_1412 ?_
  rw [e2]
  refine lv_aload_n hx hb dL_law_1413 rfl (lv_at hl 3 rfl) ?_
  obtain ⟨v1, uM3_2, uo_3, h4, hf⟩ := xb3_of hf
  refine x_hcalliS (As := [.ref (xAd κ 234), .int a1, .int a2, .ref (xAd κ 254)]) (rest := []) (σ' := (upA uA 0 (uP, uC, uD, uJ, ur, ut, ud, ug), (uT0, uT1, uT2, uT3, uT4, uT5, uT6, uT7, uT8), (uG0, uG1, uG2), (uM0, uM1, uM2, uM3_2, uM4), (uF0, uF1, uF2, uF3, uF4, uF5, uF6, uF7, uF8, uF9, uF10, uF11, uF12, uF13, uF14, uF15, uF16, uF17, uF18), uo_3, uv)) hc hw hl.1 hlt (m_L_debt h4) kL_213 rfl rfl ⟨rfl, rfl⟩ ⟨Nat.le_of_ble_eq_true rfl, Nat.le_of_ble_eq_true rfl⟩ hz1 (Nat.le_of_ble_eq_true rfl) dL_law_1414 (fun H locs hw => ?_)
  refine lv_istore (lv' := [(6, .int v1), (0, .ref b), (1, .ref (xAd κ 234)), (2, .ref (xAd κ 245)), (3, .ref (xAd κ 254)), (4, .ref (xAd κ 255)), (5, .int (nI i))]) hx hb dL_law_1417 hl (by decide) rfl (fun ls hl => ?_)
  refine lv_aload_n hx hb dL_law_1419 rfl (lv_at hl 3 rfl) ?_
  refine lv_aload_n hx hb dL_law_1420 rfl (lv_at hl 1 rfl) ?_
  refine lv_iload hx hb dL_law_1421 (lv_at hl 6 rfl) ?_
  refine lv_iconst (v := 1) hx hb dL_law_1423 (by decide) ?_
  refine lv_iadd hx hb dL_law_1424 ?_
  refine va_sld hx hb hX hbl hbA hw.2 h1 dL_law_1425 ?_
  rw [e1]
  refine lv_aload_n hx hb dL_law_1426 rfl (lv_at hl 1 rfl) ?_
  refine lv_iload hx hb dL_law_1427 (lv_at hl 6 rfl) ?_
  refine lv_iconst (v := 2) hx hb dL_law_1429 (by decide) ?_
  refine lv_iadd hx hb dL_law_1430 ?_
  refine va_sld hx hb hX hbl hbA hw.2 h2 dL_law_1431 ?_
  rw [e2]
  obtain ⟨v5, uF0_6, h7, hf⟩ := xb2_of hf
  refine x_calllV (As := [.int a1, .int a2]) (rest := []) (σ' := (upA uA 0 (uP, uC, uD, uJ, ur, ut, ud, ug), (uT0, uT1, uT2, uT3, uT4, uT5, uT6, uT7, uT8), (uG0, uG1, uG2), (uM0, uM1, uM2, uM3_2, uM4), (uF0_6, uF1, uF2, uF3, uF4, uF5, uF6, uF7, uF8, uF9, uF10, uF11, uF12, uF13, uF14, uF15, uF16, uF17, uF18), uo_3, uv)) hc hw hl.1 (m_X8_debt h7) kL_215 co_245 rfl rfl ⟨rfl, rfl⟩ ⟨Nat.le_of_ble_eq_true rfl, Nat.le_of_ble_eq_true rfl⟩ hz1 (Nat.le_of_ble_eq_true rfl) dL_law_1432 (fun H locs hw => ?_)
  refine lv_lstore (lv' := [(7, .long v5), (6, .int v1), (0, .ref b), (1, .ref (xAd κ 234)), (2, .ref (xAd κ 245)), (3, .ref (xAd κ 254)), (4, .ref (xAd κ 255)), (5, .int (nI i))]) hx hb dL_law_1435 hl (by decide) rfl (fun ls hl => ?_)
  refine lv_aload_n hx hb dL_law_1437 rfl (lv_at hl 4 rfl) ?_
  obtain ⟨v8, h9, hf⟩ := xb1_of hf
  refine x_calliV (As := []) (rest := []) (σ' := (upA uA 0 (uP, uC, uD, uJ, ur, ut, ud, ug), (uT0, uT1, uT2, uT3, uT4, uT5, uT6, uT7, uT8), (uG0, uG1, uG2), (uM0, uM1, uM2, uM3_2, uM4), (uF0_6, uF1, uF2, uF3, uF4, uF5, uF6, uF7, uF8, uF9, uF10, uF11, uF12, uF13, uF14, uF15, uF16, uF17, uF18), uo_3, uv)) hc hw hl.1 (m_X8_thrown h9) kL_148 co_245 rfl rfl ⟨rfl, rfl⟩ ⟨Nat.le_of_ble_eq_true rfl, Nat.le_of_ble_eq_true rfl⟩ hz1 (Nat.le_of_ble_eq_true rfl) dL_law_1438 (fun H locs hw => ?_)
  refine lv_iload hx hb dL_law_1441 (lv_at hl 1 rfl) ?_
  refine lv_icmp_eq (tgt := 1448) hx hb dL_law_1443 (by decide) (fun c10 => ?_) (fun c10 => ?_)
  · have hf := xif_t c10 hf
    refine lv_iload hx hb dL_law_1448 (lv_at hl 1 rfl) ?_
    refine lv_if_ne (tgt := 1464) hx hb dL_law_1450 (by decide) (fun c11 => ?_) (fun c11 => ?_)
    · have hf := xif_f c11 hf
      refine lv_goto (tgt := 2367) hx hb dL_law_1464 (by decide) ?_
      cases hf
      exact K _ _ _ hw (lv_sub hl [2, 3, 4, 5, 6, 7] rfl)
    · have hf := xif_t c11 hf
      refine lv_aload_n hx hb dL_law_1453 rfl (lv_at hl 5 rfl) ?_
      refine lv_iconst (v := 0) hx hb dL_law_1454 (by decide) ?_
      obtain ⟨k12, hf⟩ := xk_of hf
      refine x_lald (n := 1) (f := uo_3) hc hw co_254 k12 dL_law_1455 ?_
      refine lv_lload hx hb dL_law_1456 (lv_at hl 0 rfl) ?_
      refine x_lcmp_eq (tgt := 1464) hx hb dL_law_1458 dL_law_1459 (by decide) (fun c13 => ?_) (fun c13 => ?_)
      · have hf := xif_t c13 hf
        refine lv_goto (tgt := 2367) hx hb dL_law_1464 (by decide) ?_
        cases hf
        exact K _ _ _ hw (lv_sub hl [2, 3, 4, 5, 6, 7] rfl)
      · have hf := xif_f c13 hf
        refine lv_iconst (v := 0) hx hb dL_law_1462 (by decide) ?_
        cases hf
  · have hf := xif_f c10 hf
    refine lv_iconst (v := 0) hx hb dL_law_1446 (by decide) ?_
    cases hf
set_option maxHeartbeats 4000000 in
set_option maxRecDepth 100000 in
theorem q_22 {l : Launch} {κ : xKt} {fu : Nat} {a1 a2 a3 : Int32} {uA : Nat → sAcc} {uP : sPar} {uC : sCla} {uD : sDeb} {uJ : sJou} {ur : xF32} {ut : xF32} {ud : Int32} {ug : Int32} {uT0 : Int32} {uT1 : xF32} {uT2 : Int32} {uT3 : Int32} {uT4 : Int32} {uT5 : xF32} {uT6 : xF32} {uT7 : xF32} {uT8 : xF32} {uG0 : Int32} {uG1 : xF32} {uG2 : xF32} {uM0 : Int32} {uM1 : Int32} {uM2 : Int32} {uM3 : Int32} {uM4 : Int32} {uF0 : Int32} {uF1 : xF64} {uF2 : xF64} {uF3 : xF64} {uF4 : xF64} {uF5 : Int32} {uF6 : Int32} {uF7 : Int32} {uF8 : xF32} {uF9 : Int32} {uF10 : Int32} {uF11 : Int64} {uF12 : xF32} {uF13 : Int32} {uF14 : Int32} {uF15 : Int32} {uF16 : xF32} {uF17 : xF32} {uF18 : Int32} {uo : xF64} {uv : Nat → UInt64} {yA : Nat → sAcc} {yD : sDeb} {yJ : sJou} {yM1 : Int32} {yM2 : Int32} {yM3 : Int32} {yF0 : Int32} {yF1 : xF64} {yF3 : xF64} {yF4 : xF64} {yF5 : Int32} {yF7 : Int32} {yF11 : Int64} {yo : xF64} {A : Nat → Prop} {p : Program} {e : Env} {s : State} {m : MethodId} {args : Array Value} {below : List Frame} {meth : Method} {c : Code} {Q : State → Prop} {b L i kc ks : Nat} {xs : Nat → Int32}
    (hc : xC κ A p s m args meth c cL_law RL 9 (some .boolean)) (hlt : l.stackTraces = false) (hX : va_X b L xs s s.heap) (hbl : b < s.heap.size) (hbA : ¬ A b) (h1 : vp_in ((nI i) + 1) L) (h2 : vp_in ((nI i) + 2) L) (h3 : vp_in ((nI i) + 3) L) (e1 : xs ((nI i) + 1).toNatClampNeg = a1) (e2 : xs ((nI i) + 2).toNatClampNeg = a2) (e3 : xs ((nI i) + 3).toNatClampNeg = a3) (hz0 : kc ≤ room_1.cells ∧ ks ≤ room_1.slots) (hz1 : kc + 1 ≤ room_1.cells ∧ ks + 6 ≤ room_1.slots)
    (hf : f_C_22 fu a1 a2 a3 uA uP uC uD uJ ur ut ud ug uM1 uM2 uM3 uF0 uF1 uF3 uF4 uF5 uF7 uF11 uo = some (yA, yD, yJ, yM1, yM2, yM3, yF0, yF1, yF3, yF4, yF5, yF7, yF11, yo))
    (K : ∀ (H : Heap) (locs : List Loc) (ls : Array Slot), xW κ A s (upA yA 0 (uP, uC, yD, yJ, ur, ut, ud, ug), (uT0, uT1, uT2, uT3, uT4, uT5, uT6, uT7, uT8), (uG0, uG1, uG2), (uM0, yM1, yM2, yM3, uM4), (yF0, yF1, uF2, yF3, yF4, yF5, uF6, yF7, uF8, uF9, uF10, yF11, uF12, uF13, uF14, uF15, uF16, uF17, uF18), yo, uv) H locs → lv_has ls 9 [(0, .ref b), (1, .ref (xAd κ 234)), (2, .ref (xAd κ 245)), (3, .ref (xAd κ 254)), (4, .ref (xAd κ 255)), (5, .int (nI i))] → W p l e room_1 s m args below meth c H locs (kc + 1) (ks + 6) Q (F0 m 2367 ls [])) :
    ∀ (H : Heap) (locs : List Loc) (ls : Array Slot), xW κ A s (upA uA 0 (uP, uC, uD, uJ, ur, ut, ud, ug), (uT0, uT1, uT2, uT3, uT4, uT5, uT6, uT7, uT8), (uG0, uG1, uG2), (uM0, uM1, uM2, uM3, uM4), (uF0, uF1, uF2, uF3, uF4, uF5, uF6, uF7, uF8, uF9, uF10, uF11, uF12, uF13, uF14, uF15, uF16, uF17, uF18), uo, uv) H locs → lv_has ls 9 [(0, .ref b), (1, .ref (xAd κ 234)), (2, .ref (xAd κ 245)), (3, .ref (xAd κ 254)), (4, .ref (xAd κ 255)), (5, .int (nI i))] → W p l e room_1 s m args below meth c H locs kc ks Q (F0 m 1467 ls []) := by
  have hx := hc.1.1
  have hb := hc.1.2.1
  intro H locs ls hw hl
  unfold f_C_22 at hf
  refine lv_aload_n hx hb dL_law_1467 rfl (lv_at hl 1 rfl) ?_
  refine lv_aload_n hx hb dL_law_1468 rfl (lv_at hl 0 rfl) ?_
  refine lv_iload hx hb dL_law_1469 (lv_at hl 5 rfl) ?_
  refine lv_iconst (v := 1) hx hb dL_law_1471 (by decide) ?_
  refine lv_iadd hx hb dL_law_1472 ?_
  refine va_sld hx hb hX hbl hbA hw.2 h1 dL_law_1473 ?_
  rw [e1]
  refine lv_aload_n hx hb dL_law_1474 rfl (lv_at hl 0 rfl) ?_
  refine lv_iload hx hb dL_law_1475 (lv_at hl 5 rfl) ?_
  refine lv_iconst (v := 2) hx hb dL_law_1477 (by decide) ?_
  refine lv_iadd hx hb dL_law_1478 ?_
  refine va_sld hx hb hX hbl hbA hw.2 h2 dL_law_1479 ?_
  rw [e2]
  refine lv_aload_n hx hb dL_law_1480 rfl (lv_at hl 0 rfl) ?_
  refine lv_iload hx hb dL_law_1481 (lv_at hl 5 rfl) ?_
  refine lv_iconst (v := 3) hx hb dL_law_1483 (by decide) ?_
  refine lv_iadd hx hb dL_law_1484 ?_
  refine va_sld hx hb hX hbl hbA hw.2 h3 dL_law_1485 ?_
  rw [e3]
  refine lv_aload_n hx hb dL_law_1486 rfl (lv_at hl 3 rfl) ?_
  obtain ⟨v1, uA_2, uD_3, uJ_4, uM1_5, uM2_6, uM3_7, uo_8, h9, hf⟩ := xb8_of hf
  refine x_hcalliS (As := [.ref (xAd κ 234), .int a1, .int a2, .int a3, .ref (xAd κ 254)]) (rest := []) (σ' := (upA uA_2 0 (uP, uC, uD_3, uJ_4, ur, ut, ud, ug), (uT0, uT1, uT2, uT3, uT4, uT5, uT6, uT7, uT8), (uG0, uG1, uG2), (uM0, uM1_5, uM2_6, uM3_7, uM4), (uF0, uF1, uF2, uF3, uF4, uF5, uF6, uF7, uF8, uF9, uF10, uF11, uF12, uF13, uF14, uF15, uF16, uF17, uF18), uo_8, uv)) hc hw hl.1 hlt (m_L_settle h9) kL_216 rfl rfl ⟨rfl, rfl⟩ ⟨Nat.le_of_ble_eq_true rfl, Nat.le_of_ble_eq_true rfl⟩ hz1 (Nat.le_of_ble_eq_true rfl) dL_law_1487 (fun H locs hw => ?_)
  refine lv_istore (lv' := [(6, .int v1), (0, .ref b), (1, .ref (xAd κ 234)), (2, .ref (xAd κ 245)), (3, .ref (xAd κ 254)), (4, .ref (xAd κ 255)), (5, .int (nI i))]) hx hb dL_law_1490 hl (by decide) rfl (fun ls hl => ?_)
  refine lv_aload_n hx hb dL_law_1492 rfl (lv_at hl 3 rfl) ?_
  refine lv_aload_n hx hb dL_law_1493 rfl (lv_at hl 1 rfl) ?_
  refine lv_iload hx hb dL_law_1494 (lv_at hl 6 rfl) ?_
  refine lv_iconst (v := 1) hx hb dL_law_1496 (by decide) ?_
  refine lv_iadd hx hb dL_law_1497 ?_
  refine va_sld hx hb hX hbl hbA hw.2 h1 dL_law_1498 ?_
  rw [e1]
  refine lv_aload_n hx hb dL_law_1499 rfl (lv_at hl 1 rfl) ?_
  refine lv_iload hx hb dL_law_1500 (lv_at hl 6 rfl) ?_
  refine lv_iconst (v := 2) hx hb dL_law_1502 (by decide) ?_
  refine lv_iadd hx hb dL_law_1503 ?_
  refine va_sld hx hb hX hbl hbA hw.2 h2 dL_law_1504 ?_
  rw [e2]
  refine lv_aload_n hx hb dL_law_1505 rfl (lv_at hl 1 rfl) ?_
  refine lv_iload hx hb dL_law_1506 (lv_at hl 6 rfl) ?_
  refine lv_iconst (v := 3) hx hb dL_law_1508 (by decide) ?_
  refine lv_iadd hx hb dL_law_1509 ?_
  refine va_sld hx hb hX hbl hbA hw.2 h3 dL_law_1510 ?_
  rw [e3]
  obtain ⟨v10, uF0_11, uF1_12, uF3_13, uF4_14, uF5_15, uF7_16, uF11_17, h18, hf⟩ := xb8_of hf
  refine x_calllV (As := [.int a1, .int a2, .int a3]) (rest := []) (σ' := (upA uA_2 0 (uP, uC, uD_3, uJ_4, ur, ut, ud, ug), (uT0, uT1, uT2, uT3, uT4, uT5, uT6, uT7, uT8), (uG0, uG1, uG2), (uM0, uM1_5, uM2_6, uM3_7, uM4), (uF0_11, uF1_12, uF2, uF3_13, uF4_14, uF5_15, uF6, uF7_16, uF8, uF9, uF10, uF11_17, uF12, uF13, uF14, uF15, uF16, uF17, uF18), uo_8, uv)) hc hw hl.1 (m_X8_settle h18) kL_218 co_245 rfl rfl ⟨rfl, rfl⟩ ⟨Nat.le_of_ble_eq_true rfl, Nat.le_of_ble_eq_true rfl⟩ hz1 (Nat.le_of_ble_eq_true rfl) dL_law_1511 (fun H locs hw => ?_)
  refine lv_lstore (lv' := [(7, .long v10), (6, .int v1), (0, .ref b), (1, .ref (xAd κ 234)), (2, .ref (xAd κ 245)), (3, .ref (xAd κ 254)), (4, .ref (xAd κ 255)), (5, .int (nI i))]) hx hb dL_law_1514 hl (by decide) rfl (fun ls hl => ?_)
  refine lv_aload_n hx hb dL_law_1516 rfl (lv_at hl 4 rfl) ?_
  obtain ⟨v19, h20, hf⟩ := xb1_of hf
  refine x_calliV (As := []) (rest := []) (σ' := (upA uA_2 0 (uP, uC, uD_3, uJ_4, ur, ut, ud, ug), (uT0, uT1, uT2, uT3, uT4, uT5, uT6, uT7, uT8), (uG0, uG1, uG2), (uM0, uM1_5, uM2_6, uM3_7, uM4), (uF0_11, uF1_12, uF2, uF3_13, uF4_14, uF5_15, uF6, uF7_16, uF8, uF9, uF10, uF11_17, uF12, uF13, uF14, uF15, uF16, uF17, uF18), uo_8, uv)) hc hw hl.1 (m_X8_thrown h20) kL_148 co_245 rfl rfl ⟨rfl, rfl⟩ ⟨Nat.le_of_ble_eq_true rfl, Nat.le_of_ble_eq_true rfl⟩ hz1 (Nat.le_of_ble_eq_true rfl) dL_law_1517 (fun H locs hw => ?_)
  refine lv_iload hx hb dL_law_1520 (lv_at hl 1 rfl) ?_
  refine lv_icmp_eq (tgt := 1527) hx hb dL_law_1522 (by decide) (fun c21 => ?_) (fun c21 => ?_)
  · have hf := xif_t c21 hf
    refine lv_iload hx hb dL_law_1527 (lv_at hl 1 rfl) ?_
    refine lv_if_ne (tgt := 1543) hx hb dL_law_1529 (by decide) (fun c22 => ?_) (fun c22 => ?_)
    · have hf := xif_f c22 hf
      refine lv_goto (tgt := 2367) hx hb dL_law_1543 (by decide) ?_
      cases hf
      exact K _ _ _ hw (lv_sub hl [2, 3, 4, 5, 6, 7] rfl)
    · have hf := xif_t c22 hf
      refine lv_aload_n hx hb dL_law_1532 rfl (lv_at hl 5 rfl) ?_
      refine lv_iconst (v := 0) hx hb dL_law_1533 (by decide) ?_
      obtain ⟨k23, hf⟩ := xk_of hf
      refine x_lald (n := 1) (f := uo_8) hc hw co_254 k23 dL_law_1534 ?_
      refine lv_lload hx hb dL_law_1535 (lv_at hl 0 rfl) ?_
      refine x_lcmp_eq (tgt := 1543) hx hb dL_law_1537 dL_law_1538 (by decide) (fun c24 => ?_) (fun c24 => ?_)
      · have hf := xif_t c24 hf
        refine lv_goto (tgt := 2367) hx hb dL_law_1543 (by decide) ?_
        cases hf
        exact K _ _ _ hw (lv_sub hl [2, 3, 4, 5, 6, 7] rfl)
      · have hf := xif_f c24 hf
        refine lv_iconst (v := 0) hx hb dL_law_1541 (by decide) ?_
        cases hf
  · have hf := xif_f c21 hf
    refine lv_iconst (v := 0) hx hb dL_law_1525 (by decide) ?_
    cases hf
set_option maxHeartbeats 4000000 in
set_option maxRecDepth 100000 in
theorem q_23 {l : Launch} {κ : xKt} {fu : Nat} {a1 a2 a3 : Int32} {uA : Nat → sAcc} {uP : sPar} {uC : sCla} {uD : sDeb} {uJ : sJou} {ur : xF32} {ut : xF32} {ud : Int32} {ug : Int32} {uT0 : Int32} {uT1 : xF32} {uT2 : Int32} {uT3 : Int32} {uT4 : Int32} {uT5 : xF32} {uT6 : xF32} {uT7 : xF32} {uT8 : xF32} {uG0 : Int32} {uG1 : xF32} {uG2 : xF32} {uM0 : Int32} {uM1 : Int32} {uM2 : Int32} {uM3 : Int32} {uM4 : Int32} {uF0 : Int32} {uF1 : xF64} {uF2 : xF64} {uF3 : xF64} {uF4 : xF64} {uF5 : Int32} {uF6 : Int32} {uF7 : Int32} {uF8 : xF32} {uF9 : Int32} {uF10 : Int32} {uF11 : Int64} {uF12 : xF32} {uF13 : Int32} {uF14 : Int32} {uF15 : Int32} {uF16 : xF32} {uF17 : xF32} {uF18 : Int32} {uo : xF64} {uv : Nat → UInt64} {yA : Nat → sAcc} {yD : sDeb} {yJ : sJou} {yM1 : Int32} {yM2 : Int32} {yM3 : Int32} {yF0 : Int32} {yF1 : xF64} {yF3 : xF64} {yF4 : xF64} {yF5 : Int32} {yF7 : Int32} {yo : xF64} {A : Nat → Prop} {p : Program} {e : Env} {s : State} {m : MethodId} {args : Array Value} {below : List Frame} {meth : Method} {c : Code} {Q : State → Prop} {b L i kc ks : Nat} {xs : Nat → Int32}
    (hc : xC κ A p s m args meth c cL_law RL 9 (some .boolean)) (hlt : l.stackTraces = false) (hX : va_X b L xs s s.heap) (hbl : b < s.heap.size) (hbA : ¬ A b) (h1 : vp_in ((nI i) + 1) L) (h2 : vp_in ((nI i) + 2) L) (h3 : vp_in ((nI i) + 3) L) (e1 : xs ((nI i) + 1).toNatClampNeg = a1) (e2 : xs ((nI i) + 2).toNatClampNeg = a2) (e3 : xs ((nI i) + 3).toNatClampNeg = a3) (hz0 : kc ≤ room_1.cells ∧ ks ≤ room_1.slots) (hz1 : kc + 1 ≤ room_1.cells ∧ ks + 6 ≤ room_1.slots)
    (hf : f_C_23 fu a1 a2 uA uP uC uD uJ ur ut ud ug uM1 uM2 uM3 uF0 uF1 uF3 uF4 uF5 uF7 uo = some (yA, yD, yJ, yM1, yM2, yM3, yF0, yF1, yF3, yF4, yF5, yF7, yo))
    (K : ∀ (H : Heap) (locs : List Loc) (ls : Array Slot), xW κ A s (upA yA 0 (uP, uC, yD, yJ, ur, ut, ud, ug), (uT0, uT1, uT2, uT3, uT4, uT5, uT6, uT7, uT8), (uG0, uG1, uG2), (uM0, yM1, yM2, yM3, uM4), (yF0, yF1, uF2, yF3, yF4, yF5, uF6, yF7, uF8, uF9, uF10, uF11, uF12, uF13, uF14, uF15, uF16, uF17, uF18), yo, uv) H locs → lv_has ls 9 [(0, .ref b), (1, .ref (xAd κ 234)), (2, .ref (xAd κ 245)), (3, .ref (xAd κ 254)), (4, .ref (xAd κ 255)), (5, .int (nI i))] → W p l e room_1 s m args below meth c H locs (kc + 1) (ks + 6) Q (F0 m 2367 ls [])) :
    ∀ (H : Heap) (locs : List Loc) (ls : Array Slot), xW κ A s (upA uA 0 (uP, uC, uD, uJ, ur, ut, ud, ug), (uT0, uT1, uT2, uT3, uT4, uT5, uT6, uT7, uT8), (uG0, uG1, uG2), (uM0, uM1, uM2, uM3, uM4), (uF0, uF1, uF2, uF3, uF4, uF5, uF6, uF7, uF8, uF9, uF10, uF11, uF12, uF13, uF14, uF15, uF16, uF17, uF18), uo, uv) H locs → lv_has ls 9 [(0, .ref b), (1, .ref (xAd κ 234)), (2, .ref (xAd κ 245)), (3, .ref (xAd κ 254)), (4, .ref (xAd κ 255)), (5, .int (nI i))] → W p l e room_1 s m args below meth c H locs kc ks Q (F0 m 1546 ls []) := by
  have hx := hc.1.1
  have hb := hc.1.2.1
  intro H locs ls hw hl
  unfold f_C_23 at hf
  refine lv_aload_n hx hb dL_law_1546 rfl (lv_at hl 1 rfl) ?_
  refine lv_aload_n hx hb dL_law_1547 rfl (lv_at hl 0 rfl) ?_
  refine lv_iload hx hb dL_law_1548 (lv_at hl 5 rfl) ?_
  refine lv_iconst (v := 1) hx hb dL_law_1550 (by decide) ?_
  refine lv_iadd hx hb dL_law_1551 ?_
  refine va_sld hx hb hX hbl hbA hw.2 h1 dL_law_1552 ?_
  rw [e1]
  refine lv_aload_n hx hb dL_law_1553 rfl (lv_at hl 0 rfl) ?_
  refine lv_iload hx hb dL_law_1554 (lv_at hl 5 rfl) ?_
  refine lv_iconst (v := 2) hx hb dL_law_1556 (by decide) ?_
  refine lv_iadd hx hb dL_law_1557 ?_
  refine va_sld hx hb hX hbl hbA hw.2 h2 dL_law_1558 ?_
  rw [e2]
  refine lv_aload_n hx hb dL_law_1559 rfl (lv_at hl 3 rfl) ?_
  obtain ⟨v1, uA_2, uD_3, uJ_4, uM1_5, uM2_6, uM3_7, uo_8, h9, hf⟩ := xb8_of hf
  refine x_hcalliS (As := [.ref (xAd κ 234), .int a1, .int a2, .ref (xAd κ 254)]) (rest := []) (σ' := (upA uA_2 0 (uP, uC, uD_3, uJ_4, ur, ut, ud, ug), (uT0, uT1, uT2, uT3, uT4, uT5, uT6, uT7, uT8), (uG0, uG1, uG2), (uM0, uM1_5, uM2_6, uM3_7, uM4), (uF0, uF1, uF2, uF3, uF4, uF5, uF6, uF7, uF8, uF9, uF10, uF11, uF12, uF13, uF14, uF15, uF16, uF17, uF18), uo_8, uv)) hc hw hl.1 hlt (m_L_offset h9) kL_219 rfl rfl ⟨rfl, rfl⟩ ⟨Nat.le_of_ble_eq_true rfl, Nat.le_of_ble_eq_true rfl⟩ hz1 (Nat.le_of_ble_eq_true rfl) dL_law_1560 (fun H locs hw => ?_)
  refine lv_istore (lv' := [(6, .int v1), (0, .ref b), (1, .ref (xAd κ 234)), (2, .ref (xAd κ 245)), (3, .ref (xAd κ 254)), (4, .ref (xAd κ 255)), (5, .int (nI i))]) hx hb dL_law_1563 hl (by decide) rfl (fun ls hl => ?_)
  refine lv_aload_n hx hb dL_law_1565 rfl (lv_at hl 3 rfl) ?_
  refine lv_aload_n hx hb dL_law_1566 rfl (lv_at hl 1 rfl) ?_
  refine lv_iload hx hb dL_law_1567 (lv_at hl 6 rfl) ?_
  refine lv_iconst (v := 1) hx hb dL_law_1569 (by decide) ?_
  refine lv_iadd hx hb dL_law_1570 ?_
  refine va_sld hx hb hX hbl hbA hw.2 h1 dL_law_1571 ?_
  rw [e1]
  refine lv_aload_n hx hb dL_law_1572 rfl (lv_at hl 1 rfl) ?_
  refine lv_iload hx hb dL_law_1573 (lv_at hl 6 rfl) ?_
  refine lv_iconst (v := 2) hx hb dL_law_1575 (by decide) ?_
  refine lv_iadd hx hb dL_law_1576 ?_
  refine va_sld hx hb hX hbl hbA hw.2 h2 dL_law_1577 ?_
  rw [e2]
  obtain ⟨v10, uF0_11, uF1_12, uF3_13, uF4_14, uF5_15, uF7_16, h17, hf⟩ := xb7_of hf
  refine x_calllV (As := [.int a1, .int a2]) (rest := []) (σ' := (upA uA_2 0 (uP, uC, uD_3, uJ_4, ur, ut, ud, ug), (uT0, uT1, uT2, uT3, uT4, uT5, uT6, uT7, uT8), (uG0, uG1, uG2), (uM0, uM1_5, uM2_6, uM3_7, uM4), (uF0_11, uF1_12, uF2, uF3_13, uF4_14, uF5_15, uF6, uF7_16, uF8, uF9, uF10, uF11, uF12, uF13, uF14, uF15, uF16, uF17, uF18), uo_8, uv)) hc hw hl.1 (m_X8_offset h17) kL_221 co_245 rfl rfl ⟨rfl, rfl⟩ ⟨Nat.le_of_ble_eq_true rfl, Nat.le_of_ble_eq_true rfl⟩ hz1 (Nat.le_of_ble_eq_true rfl) dL_law_1578 (fun H locs hw => ?_)
  refine lv_lstore (lv' := [(7, .long v10), (6, .int v1), (0, .ref b), (1, .ref (xAd κ 234)), (2, .ref (xAd κ 245)), (3, .ref (xAd κ 254)), (4, .ref (xAd κ 255)), (5, .int (nI i))]) hx hb dL_law_1581 hl (by decide) rfl (fun ls hl => ?_)
  refine lv_aload_n hx hb dL_law_1583 rfl (lv_at hl 4 rfl) ?_
  obtain ⟨v18, h19, hf⟩ := xb1_of hf
  refine x_calliV (As := []) (rest := []) (σ' := (upA uA_2 0 (uP, uC, uD_3, uJ_4, ur, ut, ud, ug), (uT0, uT1, uT2, uT3, uT4, uT5, uT6, uT7, uT8), (uG0, uG1, uG2), (uM0, uM1_5, uM2_6, uM3_7, uM4), (uF0_11, uF1_12, uF2, uF3_13, uF4_14, uF5_15, uF6, uF7_16, uF8, uF9, uF10, uF11, uF12, uF13, uF14, uF15, uF16, uF17, uF18), uo_8, uv)) hc hw hl.1 (m_X8_thrown h19) kL_148 co_245 rfl rfl ⟨rfl, rfl⟩ ⟨Nat.le_of_ble_eq_true rfl, Nat.le_of_ble_eq_true rfl⟩ hz1 (Nat.le_of_ble_eq_true rfl) dL_law_1584 (fun H locs hw => ?_)
  refine lv_iload hx hb dL_law_1587 (lv_at hl 1 rfl) ?_
  refine lv_icmp_eq (tgt := 1594) hx hb dL_law_1589 (by decide) (fun c20 => ?_) (fun c20 => ?_)
  · have hf := xif_t c20 hf
    refine lv_iload hx hb dL_law_1594 (lv_at hl 1 rfl) ?_
    refine lv_if_ne (tgt := 1610) hx hb dL_law_1596 (by decide) (fun c21 => ?_) (fun c21 => ?_)
    · have hf := xif_f c21 hf
      refine lv_goto (tgt := 2367) hx hb dL_law_1610 (by decide) ?_
      cases hf
      exact K _ _ _ hw (lv_sub hl [2, 3, 4, 5, 6, 7] rfl)
    · have hf := xif_t c21 hf
      refine lv_aload_n hx hb dL_law_1599 rfl (lv_at hl 5 rfl) ?_
      refine lv_iconst (v := 0) hx hb dL_law_1600 (by decide) ?_
      obtain ⟨k22, hf⟩ := xk_of hf
      refine x_lald (n := 1) (f := uo_8) hc hw co_254 k22 dL_law_1601 ?_
      refine lv_lload hx hb dL_law_1602 (lv_at hl 0 rfl) ?_
      refine x_lcmp_eq (tgt := 1610) hx hb dL_law_1604 dL_law_1605 (by decide) (fun c23 => ?_) (fun c23 => ?_)
      · have hf := xif_t c23 hf
        refine lv_goto (tgt := 2367) hx hb dL_law_1610 (by decide) ?_
        cases hf
        exact K _ _ _ hw (lv_sub hl [2, 3, 4, 5, 6, 7] rfl)
      · have hf := xif_f c23 hf
        refine lv_iconst (v := 0) hx hb dL_law_1608 (by decide) ?_
        cases hf
  · have hf := xif_f c20 hf
    refine lv_iconst (v := 0) hx hb dL_law_1592 (by decide) ?_
    cases hf
set_option maxHeartbeats 4000000 in
set_option maxRecDepth 100000 in
theorem q_24 {l : Launch} {κ : xKt} {fu : Nat} {a1 a2 a3 : Int32} {uA : Nat → sAcc} {uP : sPar} {uC : sCla} {uD : sDeb} {uJ : sJou} {ur : xF32} {ut : xF32} {ud : Int32} {ug : Int32} {uT0 : Int32} {uT1 : xF32} {uT2 : Int32} {uT3 : Int32} {uT4 : Int32} {uT5 : xF32} {uT6 : xF32} {uT7 : xF32} {uT8 : xF32} {uG0 : Int32} {uG1 : xF32} {uG2 : xF32} {uM0 : Int32} {uM1 : Int32} {uM2 : Int32} {uM3 : Int32} {uM4 : Int32} {uF0 : Int32} {uF1 : xF64} {uF2 : xF64} {uF3 : xF64} {uF4 : xF64} {uF5 : Int32} {uF6 : Int32} {uF7 : Int32} {uF8 : xF32} {uF9 : Int32} {uF10 : Int32} {uF11 : Int64} {uF12 : xF32} {uF13 : Int32} {uF14 : Int32} {uF15 : Int32} {uF16 : xF32} {uF17 : xF32} {uF18 : Int32} {uo : xF64} {uv : Nat → UInt64} {yG0 : Int32} {yG1 : xF32} {yG2 : xF32} {yF0 : Int32} {yF12 : xF32} {yo : xF64} {A : Nat → Prop} {p : Program} {e : Env} {s : State} {m : MethodId} {args : Array Value} {below : List Frame} {meth : Method} {c : Code} {Q : State → Prop} {b L i kc ks : Nat} {xs : Nat → Int32}
    (hc : xC κ A p s m args meth c cL_law RL 9 (some .boolean)) (hlt : l.stackTraces = false) (hX : va_X b L xs s s.heap) (hbl : b < s.heap.size) (hbA : ¬ A b) (h1 : vp_in ((nI i) + 1) L) (h2 : vp_in ((nI i) + 2) L) (h3 : vp_in ((nI i) + 3) L) (e1 : xs ((nI i) + 1).toNatClampNeg = a1) (e2 : xs ((nI i) + 2).toNatClampNeg = a2) (e3 : xs ((nI i) + 3).toNatClampNeg = a3) (hz0 : kc ≤ room_1.cells ∧ ks ≤ room_1.slots) (hz1 : kc + 1 ≤ room_1.cells ∧ ks + 6 ≤ room_1.slots)
    (hf : f_C_24 fu a1 uD uG0 uG1 uG2 uF0 uF1 uF12 uo = some (yG0, yG1, yG2, yF0, yF12, yo))
    (K : ∀ (H : Heap) (locs : List Loc) (ls : Array Slot), xW κ A s (upA uA 0 (uP, uC, uD, uJ, ur, ut, ud, ug), (uT0, uT1, uT2, uT3, uT4, uT5, uT6, uT7, uT8), (yG0, yG1, yG2), (uM0, uM1, uM2, uM3, uM4), (yF0, uF1, uF2, uF3, uF4, uF5, uF6, uF7, uF8, uF9, uF10, uF11, yF12, uF13, uF14, uF15, uF16, uF17, uF18), yo, uv) H locs → lv_has ls 9 [(0, .ref b), (1, .ref (xAd κ 234)), (2, .ref (xAd κ 245)), (3, .ref (xAd κ 254)), (4, .ref (xAd κ 255)), (5, .int (nI i))] → W p l e room_1 s m args below meth c H locs (kc + 1) (ks + 6) Q (F0 m 2367 ls [])) :
    ∀ (H : Heap) (locs : List Loc) (ls : Array Slot), xW κ A s (upA uA 0 (uP, uC, uD, uJ, ur, ut, ud, ug), (uT0, uT1, uT2, uT3, uT4, uT5, uT6, uT7, uT8), (uG0, uG1, uG2), (uM0, uM1, uM2, uM3, uM4), (uF0, uF1, uF2, uF3, uF4, uF5, uF6, uF7, uF8, uF9, uF10, uF11, uF12, uF13, uF14, uF15, uF16, uF17, uF18), uo, uv) H locs → lv_has ls 9 [(0, .ref b), (1, .ref (xAd κ 234)), (2, .ref (xAd κ 245)), (3, .ref (xAd κ 254)), (4, .ref (xAd κ 255)), (5, .int (nI i))] → W p l e room_1 s m args below meth c H locs kc ks Q (F0 m 1613 ls []) := by
  have hx := hc.1.1
  have hb := hc.1.2.1
  intro H locs ls hw hl
  unfold f_C_24 at hf
  refine lv_aload_n hx hb dL_law_1613 rfl (lv_at hl 1 rfl) ?_
  refine lv_aload_n hx hb dL_law_1614 rfl (lv_at hl 0 rfl) ?_
  refine lv_iload hx hb dL_law_1615 (lv_at hl 5 rfl) ?_
  refine lv_iconst (v := 1) hx hb dL_law_1617 (by decide) ?_
  refine lv_iadd hx hb dL_law_1618 ?_
  refine va_sld hx hb hX hbl hbA hw.2 h1 dL_law_1619 ?_
  rw [e1]
  refine lv_aload_n hx hb dL_law_1620 rfl (lv_at hl 3 rfl) ?_
  obtain ⟨v1, uG0_2, uG1_3, uG2_4, uo_5, h6, hf⟩ := xb5_of hf
  refine x_hcalliS (As := [.ref (xAd κ 234), .int a1, .ref (xAd κ 254)]) (rest := []) (σ' := (upA uA 0 (uP, uC, uD, uJ, ur, ut, ud, ug), (uT0, uT1, uT2, uT3, uT4, uT5, uT6, uT7, uT8), (uG0_2, uG1_3, uG2_4), (uM0, uM1, uM2, uM3, uM4), (uF0, uF1, uF2, uF3, uF4, uF5, uF6, uF7, uF8, uF9, uF10, uF11, uF12, uF13, uF14, uF15, uF16, uF17, uF18), uo_5, uv)) hc hw hl.1 hlt (m_L_ring h6) kL_222 rfl rfl ⟨rfl, rfl⟩ ⟨Nat.le_of_ble_eq_true rfl, Nat.le_of_ble_eq_true rfl⟩ hz1 (Nat.le_of_ble_eq_true rfl) dL_law_1621 (fun H locs hw => ?_)
  refine lv_istore (lv' := [(6, .int v1), (0, .ref b), (1, .ref (xAd κ 234)), (2, .ref (xAd κ 245)), (3, .ref (xAd κ 254)), (4, .ref (xAd κ 255)), (5, .int (nI i))]) hx hb dL_law_1624 hl (by decide) rfl (fun ls hl => ?_)
  refine lv_aload_n hx hb dL_law_1626 rfl (lv_at hl 3 rfl) ?_
  refine lv_aload_n hx hb dL_law_1627 rfl (lv_at hl 1 rfl) ?_
  refine lv_iload hx hb dL_law_1628 (lv_at hl 6 rfl) ?_
  refine lv_iconst (v := 1) hx hb dL_law_1630 (by decide) ?_
  refine lv_iadd hx hb dL_law_1631 ?_
  refine va_sld hx hb hX hbl hbA hw.2 h1 dL_law_1632 ?_
  rw [e1]
  obtain ⟨v7, uF0_8, uF12_9, h10, hf⟩ := xb3_of hf
  refine x_calliV (As := [.int a1]) (rest := []) (σ' := (upA uA 0 (uP, uC, uD, uJ, ur, ut, ud, ug), (uT0, uT1, uT2, uT3, uT4, uT5, uT6, uT7, uT8), (uG0_2, uG1_3, uG2_4), (uM0, uM1, uM2, uM3, uM4), (uF0_8, uF1, uF2, uF3, uF4, uF5, uF6, uF7, uF8, uF9, uF10, uF11, uF12_9, uF13, uF14, uF15, uF16, uF17, uF18), uo_5, uv)) hc hw hl.1 (m_X8_ring h10) kL_224 co_245 rfl rfl ⟨rfl, rfl⟩ ⟨Nat.le_of_ble_eq_true rfl, Nat.le_of_ble_eq_true rfl⟩ hz1 (Nat.le_of_ble_eq_true rfl) dL_law_1633 (fun H locs hw => ?_)
  refine lv_istore (lv' := [(7, .int v7), (6, .int v1), (0, .ref b), (1, .ref (xAd κ 234)), (2, .ref (xAd κ 245)), (3, .ref (xAd κ 254)), (4, .ref (xAd κ 255)), (5, .int (nI i))]) hx hb dL_law_1636 hl (by decide) rfl (fun ls hl => ?_)
  refine lv_aload_n hx hb dL_law_1638 rfl (lv_at hl 4 rfl) ?_
  obtain ⟨v11, h12, hf⟩ := xb1_of hf
  refine x_calliV (As := []) (rest := []) (σ' := (upA uA 0 (uP, uC, uD, uJ, ur, ut, ud, ug), (uT0, uT1, uT2, uT3, uT4, uT5, uT6, uT7, uT8), (uG0_2, uG1_3, uG2_4), (uM0, uM1, uM2, uM3, uM4), (uF0_8, uF1, uF2, uF3, uF4, uF5, uF6, uF7, uF8, uF9, uF10, uF11, uF12_9, uF13, uF14, uF15, uF16, uF17, uF18), uo_5, uv)) hc hw hl.1 (m_X8_thrown h12) kL_148 co_245 rfl rfl ⟨rfl, rfl⟩ ⟨Nat.le_of_ble_eq_true rfl, Nat.le_of_ble_eq_true rfl⟩ hz1 (Nat.le_of_ble_eq_true rfl) dL_law_1639 (fun H locs hw => ?_)
  refine lv_iload hx hb dL_law_1642 (lv_at hl 1 rfl) ?_
  refine lv_icmp_eq (tgt := 1649) hx hb dL_law_1644 (by decide) (fun c13 => ?_) (fun c13 => ?_)
  · have hf := xif_t c13 hf
    refine lv_iload hx hb dL_law_1649 (lv_at hl 1 rfl) ?_
    refine lv_if_ne (tgt := 1666) hx hb dL_law_1651 (by decide) (fun c14 => ?_) (fun c14 => ?_)
    · have hf := xif_f c14 hf
      refine lv_goto (tgt := 2367) hx hb dL_law_1666 (by decide) ?_
      cases hf
      exact K _ _ _ hw (lv_sub hl [2, 3, 4, 5, 6, 7] rfl)
    · have hf := xif_t c14 hf
      refine lv_aload_n hx hb dL_law_1654 rfl (lv_at hl 5 rfl) ?_
      refine lv_iconst (v := 0) hx hb dL_law_1655 (by decide) ?_
      obtain ⟨k15, hf⟩ := xk_of hf
      refine x_lald (n := 1) (f := uo_5) hc hw co_254 k15 dL_law_1656 ?_
      refine lv_iload hx hb dL_law_1657 (lv_at hl 0 rfl) ?_
      refine lv_i2l (v := v7.toInt64) hx hb dL_law_1659 rfl ?_
      refine x_lcmp_eq (tgt := 1666) hx hb dL_law_1660 dL_law_1661 (by decide) (fun c16 => ?_) (fun c16 => ?_)
      · have hf := xif_t c16 hf
        refine lv_goto (tgt := 2367) hx hb dL_law_1666 (by decide) ?_
        cases hf
        exact K _ _ _ hw (lv_sub hl [2, 3, 4, 5, 6, 7] rfl)
      · have hf := xif_f c16 hf
        refine lv_iconst (v := 0) hx hb dL_law_1664 (by decide) ?_
        cases hf
  · have hf := xif_f c13 hf
    refine lv_iconst (v := 0) hx hb dL_law_1647 (by decide) ?_
    cases hf
set_option maxHeartbeats 4000000 in
set_option maxRecDepth 100000 in
theorem q_25 {l : Launch} {κ : xKt} {fu : Nat} {a1 a2 a3 : Int32} {uA : Nat → sAcc} {uP : sPar} {uC : sCla} {uD : sDeb} {uJ : sJou} {ur : xF32} {ut : xF32} {ud : Int32} {ug : Int32} {uT0 : Int32} {uT1 : xF32} {uT2 : Int32} {uT3 : Int32} {uT4 : Int32} {uT5 : xF32} {uT6 : xF32} {uT7 : xF32} {uT8 : xF32} {uG0 : Int32} {uG1 : xF32} {uG2 : xF32} {uM0 : Int32} {uM1 : Int32} {uM2 : Int32} {uM3 : Int32} {uM4 : Int32} {uF0 : Int32} {uF1 : xF64} {uF2 : xF64} {uF3 : xF64} {uF4 : xF64} {uF5 : Int32} {uF6 : Int32} {uF7 : Int32} {uF8 : xF32} {uF9 : Int32} {uF10 : Int32} {uF11 : Int64} {uF12 : xF32} {uF13 : Int32} {uF14 : Int32} {uF15 : Int32} {uF16 : xF32} {uF17 : xF32} {uF18 : Int32} {uo : xF64} {uv : Nat → UInt64} {yA : Nat → sAcc} {yD : sDeb} {yJ : sJou} {yG0 : Int32} {yG1 : xF32} {yG2 : xF32} {yM1 : Int32} {yM2 : Int32} {yF0 : Int32} {yF1 : xF64} {yF3 : xF64} {yF4 : xF64} {yF5 : Int32} {yF12 : xF32} {A : Nat → Prop} {p : Program} {e : Env} {s : State} {m : MethodId} {args : Array Value} {below : List Frame} {meth : Method} {c : Code} {Q : State → Prop} {b L i kc ks : Nat} {xs : Nat → Int32}
    (hc : xC κ A p s m args meth c cL_law RL 9 (some .boolean)) (hlt : l.stackTraces = false) (hX : va_X b L xs s s.heap) (hbl : b < s.heap.size) (hbA : ¬ A b) (h1 : vp_in ((nI i) + 1) L) (h2 : vp_in ((nI i) + 2) L) (h3 : vp_in ((nI i) + 3) L) (e1 : xs ((nI i) + 1).toNatClampNeg = a1) (e2 : xs ((nI i) + 2).toNatClampNeg = a2) (e3 : xs ((nI i) + 3).toNatClampNeg = a3) (hz0 : kc ≤ room_1.cells ∧ ks ≤ room_1.slots) (hz1 : kc + 1 ≤ room_1.cells ∧ ks + 6 ≤ room_1.slots)
    (hf : f_C_25 fu uA uP uC uD uJ ur ut ud ug uG0 uG1 uG2 uM1 uM2 uF0 uF1 uF3 uF4 uF5 uF12 = some (yA, yD, yJ, yG0, yG1, yG2, yM1, yM2, yF0, yF1, yF3, yF4, yF5, yF12))
    (K : ∀ (H : Heap) (locs : List Loc) (ls : Array Slot), xW κ A s (upA yA 0 (uP, uC, yD, yJ, ur, ut, ud, ug), (uT0, uT1, uT2, uT3, uT4, uT5, uT6, uT7, uT8), (yG0, yG1, yG2), (uM0, yM1, yM2, uM3, uM4), (yF0, yF1, uF2, yF3, yF4, yF5, uF6, uF7, uF8, uF9, uF10, uF11, yF12, uF13, uF14, uF15, uF16, uF17, uF18), uo, uv) H locs → lv_has ls 9 [(0, .ref b), (1, .ref (xAd κ 234)), (2, .ref (xAd κ 245)), (3, .ref (xAd κ 254)), (4, .ref (xAd κ 255)), (5, .int (nI i))] → W p l e room_1 s m args below meth c H locs (kc + 1) (ks + 6) Q (F0 m 2367 ls [])) :
    ∀ (H : Heap) (locs : List Loc) (ls : Array Slot), xW κ A s (upA uA 0 (uP, uC, uD, uJ, ur, ut, ud, ug), (uT0, uT1, uT2, uT3, uT4, uT5, uT6, uT7, uT8), (uG0, uG1, uG2), (uM0, uM1, uM2, uM3, uM4), (uF0, uF1, uF2, uF3, uF4, uF5, uF6, uF7, uF8, uF9, uF10, uF11, uF12, uF13, uF14, uF15, uF16, uF17, uF18), uo, uv) H locs → lv_has ls 9 [(0, .ref b), (1, .ref (xAd κ 234)), (2, .ref (xAd κ 245)), (3, .ref (xAd κ 254)), (4, .ref (xAd κ 255)), (5, .int (nI i))] → W p l e room_1 s m args below meth c H locs kc ks Q (F0 m 1669 ls []) := by
  have hx := hc.1.1
  have hb := hc.1.2.1
  intro H locs ls hw hl
  unfold f_C_25 at hf
  refine lv_aload_n hx hb dL_law_1669 rfl (lv_at hl 1 rfl) ?_
  obtain ⟨v1, uA_2, uD_3, uJ_4, uG0_5, uG1_6, uG2_7, uM1_8, uM2_9, h10, hf⟩ := xb9_of hf
  refine x_calllV (As := []) (rest := []) (σ' := (upA uA_2 0 (uP, uC, uD_3, uJ_4, ur, ut, ud, ug), (uT0, uT1, uT2, uT3, uT4, uT5, uT6, uT7, uT8), (uG0_5, uG1_6, uG2_7), (uM0, uM1_8, uM2_9, uM3, uM4), (uF0, uF1, uF2, uF3, uF4, uF5, uF6, uF7, uF8, uF9, uF10, uF11, uF12, uF13, uF14, uF15, uF16, uF17, uF18), uo, uv)) hc hw hl.1 (m_X7_clearRings h10) kL_225 co_234 rfl rfl ⟨rfl, rfl⟩ ⟨Nat.le_of_ble_eq_true rfl, Nat.le_of_ble_eq_true rfl⟩ hz0 (Nat.le_of_ble_eq_true rfl) dL_law_1670 (fun H locs hw => ?_)
  refine lv_aload_n hx hb dL_law_1673 rfl (lv_at hl 2 rfl) ?_
  obtain ⟨v11, uF0_12, uF1_13, uF3_14, uF4_15, uF5_16, uF12_17, h18, hf⟩ := xb7_of hf
  refine x_calllV (As := []) (rest := [.long v1]) (σ' := (upA uA_2 0 (uP, uC, uD_3, uJ_4, ur, ut, ud, ug), (uT0, uT1, uT2, uT3, uT4, uT5, uT6, uT7, uT8), (uG0_5, uG1_6, uG2_7), (uM0, uM1_8, uM2_9, uM3, uM4), (uF0_12, uF1_13, uF2, uF3_14, uF4_15, uF5_16, uF6, uF7, uF8, uF9, uF10, uF11, uF12_17, uF13, uF14, uF15, uF16, uF17, uF18), uo, uv)) hc hw hl.1 (m_X8_clearRings h18) kL_228 co_245 rfl rfl ⟨rfl, rfl⟩ ⟨Nat.le_of_ble_eq_true rfl, Nat.le_of_ble_eq_true rfl⟩ hz0 (Nat.le_of_ble_eq_true rfl) dL_law_1674 (fun H locs hw => ?_)
  refine x_lcmp_eq (tgt := 2367) hx hb dL_law_1677 dL_law_1678 (by decide) (fun c19 => ?_) (fun c19 => ?_)
  · have hf := xif_t c19 hf
    cases hf
    exact W.widen (Nat.le_succ _) (Nat.le_add_right _ _) (K _ _ _ hw (lv_sub hl [0, 1, 2, 3, 4, 5] rfl))
  · have hf := xif_f c19 hf
    refine lv_iconst (v := 0) hx hb dL_law_1681 (by decide) ?_
    cases hf
set_option maxHeartbeats 4000000 in
set_option maxRecDepth 100000 in
theorem q_26 {l : Launch} {κ : xKt} {fu : Nat} {a1 a2 a3 : Int32} {uA : Nat → sAcc} {uP : sPar} {uC : sCla} {uD : sDeb} {uJ : sJou} {ur : xF32} {ut : xF32} {ud : Int32} {ug : Int32} {uT0 : Int32} {uT1 : xF32} {uT2 : Int32} {uT3 : Int32} {uT4 : Int32} {uT5 : xF32} {uT6 : xF32} {uT7 : xF32} {uT8 : xF32} {uG0 : Int32} {uG1 : xF32} {uG2 : xF32} {uM0 : Int32} {uM1 : Int32} {uM2 : Int32} {uM3 : Int32} {uM4 : Int32} {uF0 : Int32} {uF1 : xF64} {uF2 : xF64} {uF3 : xF64} {uF4 : xF64} {uF5 : Int32} {uF6 : Int32} {uF7 : Int32} {uF8 : xF32} {uF9 : Int32} {uF10 : Int32} {uF11 : Int64} {uF12 : xF32} {uF13 : Int32} {uF14 : Int32} {uF15 : Int32} {uF16 : xF32} {uF17 : xF32} {uF18 : Int32} {uo : xF64} {uv : Nat → UInt64} {yF0 : Int32} {yo : xF64} {A : Nat → Prop} {p : Program} {e : Env} {s : State} {m : MethodId} {args : Array Value} {below : List Frame} {meth : Method} {c : Code} {Q : State → Prop} {b L i kc ks : Nat} {xs : Nat → Int32}
    (hc : xC κ A p s m args meth c cL_law RL 9 (some .boolean)) (hlt : l.stackTraces = false) (hX : va_X b L xs s s.heap) (hbl : b < s.heap.size) (hbA : ¬ A b) (h1 : vp_in ((nI i) + 1) L) (h2 : vp_in ((nI i) + 2) L) (h3 : vp_in ((nI i) + 3) L) (e1 : xs ((nI i) + 1).toNatClampNeg = a1) (e2 : xs ((nI i) + 2).toNatClampNeg = a2) (e3 : xs ((nI i) + 3).toNatClampNeg = a3) (hz0 : kc ≤ room_1.cells ∧ ks ≤ room_1.slots) (hz1 : kc + 1 ≤ room_1.cells ∧ ks + 6 ≤ room_1.slots)
    (hf : f_C_26 fu a1 uP uD uF0 uF1 uo = some (yF0, yo))
    (K : ∀ (H : Heap) (locs : List Loc) (ls : Array Slot), xW κ A s (upA uA 0 (uP, uC, uD, uJ, ur, ut, ud, ug), (uT0, uT1, uT2, uT3, uT4, uT5, uT6, uT7, uT8), (uG0, uG1, uG2), (uM0, uM1, uM2, uM3, uM4), (yF0, uF1, uF2, uF3, uF4, uF5, uF6, uF7, uF8, uF9, uF10, uF11, uF12, uF13, uF14, uF15, uF16, uF17, uF18), yo, uv) H locs → lv_has ls 9 [(0, .ref b), (1, .ref (xAd κ 234)), (2, .ref (xAd κ 245)), (3, .ref (xAd κ 254)), (4, .ref (xAd κ 255)), (5, .int (nI i))] → W p l e room_1 s m args below meth c H locs (kc + 1) (ks + 6) Q (F0 m 2367 ls [])) :
    ∀ (H : Heap) (locs : List Loc) (ls : Array Slot), xW κ A s (upA uA 0 (uP, uC, uD, uJ, ur, ut, ud, ug), (uT0, uT1, uT2, uT3, uT4, uT5, uT6, uT7, uT8), (uG0, uG1, uG2), (uM0, uM1, uM2, uM3, uM4), (uF0, uF1, uF2, uF3, uF4, uF5, uF6, uF7, uF8, uF9, uF10, uF11, uF12, uF13, uF14, uF15, uF16, uF17, uF18), uo, uv) H locs → lv_has ls 9 [(0, .ref b), (1, .ref (xAd κ 234)), (2, .ref (xAd κ 245)), (3, .ref (xAd κ 254)), (4, .ref (xAd κ 255)), (5, .int (nI i))] → W p l e room_1 s m args below meth c H locs kc ks Q (F0 m 1683 ls []) := by
  have hx := hc.1.1
  have hb := hc.1.2.1
  intro H locs ls hw hl
  unfold f_C_26 at hf
  refine lv_aload_n hx hb dL_law_1683 rfl (lv_at hl 1 rfl) ?_
  refine lv_aload_n hx hb dL_law_1684 rfl (lv_at hl 0 rfl) ?_
  refine lv_iload hx hb dL_law_1685 (lv_at hl 5 rfl) ?_
  refine lv_iconst (v := 1) hx hb dL_law_1687 (by decide) ?_
  refine lv_iadd hx hb dL_law_1688 ?_
  refine va_sld hx hb hX hbl hbA hw.2 h1 dL_law_1689 ?_
  rw [e1]
  refine lv_aload_n hx hb dL_law_1690 rfl (lv_at hl 3 rfl) ?_
  obtain ⟨v1, uo_2, h3, hf⟩ := xb2_of hf
  refine x_hcalliS (As := [.ref (xAd κ 234), .int a1, .ref (xAd κ 254)]) (rest := []) (σ' := (upA uA 0 (uP, uC, uD, uJ, ur, ut, ud, ug), (uT0, uT1, uT2, uT3, uT4, uT5, uT6, uT7, uT8), (uG0, uG1, uG2), (uM0, uM1, uM2, uM3, uM4), (uF0, uF1, uF2, uF3, uF4, uF5, uF6, uF7, uF8, uF9, uF10, uF11, uF12, uF13, uF14, uF15, uF16, uF17, uF18), uo_2, uv)) hc hw hl.1 hlt (m_L_net h3) kL_229 rfl rfl ⟨rfl, rfl⟩ ⟨Nat.le_of_ble_eq_true rfl, Nat.le_of_ble_eq_true rfl⟩ hz1 (Nat.le_of_ble_eq_true rfl) dL_law_1691 (fun H locs hw => ?_)
  refine lv_istore (lv' := [(6, .int v1), (0, .ref b), (1, .ref (xAd κ 234)), (2, .ref (xAd κ 245)), (3, .ref (xAd κ 254)), (4, .ref (xAd κ 255)), (5, .int (nI i))]) hx hb dL_law_1694 hl (by decide) rfl (fun ls hl => ?_)
  refine lv_aload_n hx hb dL_law_1696 rfl (lv_at hl 3 rfl) ?_
  refine lv_aload_n hx hb dL_law_1697 rfl (lv_at hl 1 rfl) ?_
  refine lv_iload hx hb dL_law_1698 (lv_at hl 6 rfl) ?_
  refine lv_iconst (v := 1) hx hb dL_law_1700 (by decide) ?_
  refine lv_iadd hx hb dL_law_1701 ?_
  refine va_sld hx hb hX hbl hbA hw.2 h1 dL_law_1702 ?_
  rw [e1]
  obtain ⟨v4, uF0_5, h6, hf⟩ := xb2_of hf
  refine x_calllV (As := [.int a1]) (rest := []) (σ' := (upA uA 0 (uP, uC, uD, uJ, ur, ut, ud, ug), (uT0, uT1, uT2, uT3, uT4, uT5, uT6, uT7, uT8), (uG0, uG1, uG2), (uM0, uM1, uM2, uM3, uM4), (uF0_5, uF1, uF2, uF3, uF4, uF5, uF6, uF7, uF8, uF9, uF10, uF11, uF12, uF13, uF14, uF15, uF16, uF17, uF18), uo_2, uv)) hc hw hl.1 (m_X8_net h6) kL_231 co_245 rfl rfl ⟨rfl, rfl⟩ ⟨Nat.le_of_ble_eq_true rfl, Nat.le_of_ble_eq_true rfl⟩ hz1 (Nat.le_of_ble_eq_true rfl) dL_law_1703 (fun H locs hw => ?_)
  refine lv_lstore (lv' := [(7, .long v4), (6, .int v1), (0, .ref b), (1, .ref (xAd κ 234)), (2, .ref (xAd κ 245)), (3, .ref (xAd κ 254)), (4, .ref (xAd κ 255)), (5, .int (nI i))]) hx hb dL_law_1706 hl (by decide) rfl (fun ls hl => ?_)
  refine lv_aload_n hx hb dL_law_1708 rfl (lv_at hl 4 rfl) ?_
  obtain ⟨v7, h8, hf⟩ := xb1_of hf
  refine x_calliV (As := []) (rest := []) (σ' := (upA uA 0 (uP, uC, uD, uJ, ur, ut, ud, ug), (uT0, uT1, uT2, uT3, uT4, uT5, uT6, uT7, uT8), (uG0, uG1, uG2), (uM0, uM1, uM2, uM3, uM4), (uF0_5, uF1, uF2, uF3, uF4, uF5, uF6, uF7, uF8, uF9, uF10, uF11, uF12, uF13, uF14, uF15, uF16, uF17, uF18), uo_2, uv)) hc hw hl.1 (m_X8_thrown h8) kL_148 co_245 rfl rfl ⟨rfl, rfl⟩ ⟨Nat.le_of_ble_eq_true rfl, Nat.le_of_ble_eq_true rfl⟩ hz1 (Nat.le_of_ble_eq_true rfl) dL_law_1709 (fun H locs hw => ?_)
  refine lv_iload hx hb dL_law_1712 (lv_at hl 1 rfl) ?_
  refine lv_icmp_eq (tgt := 1719) hx hb dL_law_1714 (by decide) (fun c9 => ?_) (fun c9 => ?_)
  · have hf := xif_t c9 hf
    refine lv_iload hx hb dL_law_1719 (lv_at hl 1 rfl) ?_
    refine lv_if_ne (tgt := 1735) hx hb dL_law_1721 (by decide) (fun c10 => ?_) (fun c10 => ?_)
    · have hf := xif_f c10 hf
      refine lv_goto (tgt := 2367) hx hb dL_law_1735 (by decide) ?_
      cases hf
      exact K _ _ _ hw (lv_sub hl [2, 3, 4, 5, 6, 7] rfl)
    · have hf := xif_t c10 hf
      refine lv_aload_n hx hb dL_law_1724 rfl (lv_at hl 5 rfl) ?_
      refine lv_iconst (v := 0) hx hb dL_law_1725 (by decide) ?_
      obtain ⟨k11, hf⟩ := xk_of hf
      refine x_lald (n := 1) (f := uo_2) hc hw co_254 k11 dL_law_1726 ?_
      refine lv_lload hx hb dL_law_1727 (lv_at hl 0 rfl) ?_
      refine x_lcmp_eq (tgt := 1735) hx hb dL_law_1729 dL_law_1730 (by decide) (fun c12 => ?_) (fun c12 => ?_)
      · have hf := xif_t c12 hf
        refine lv_goto (tgt := 2367) hx hb dL_law_1735 (by decide) ?_
        cases hf
        exact K _ _ _ hw (lv_sub hl [2, 3, 4, 5, 6, 7] rfl)
      · have hf := xif_f c12 hf
        refine lv_iconst (v := 0) hx hb dL_law_1733 (by decide) ?_
        cases hf
  · have hf := xif_f c9 hf
    refine lv_iconst (v := 0) hx hb dL_law_1717 (by decide) ?_
    cases hf
set_option maxHeartbeats 4000000 in
set_option maxRecDepth 100000 in
theorem q_27 {l : Launch} {κ : xKt} {fu : Nat} {a1 a2 a3 : Int32} {uA : Nat → sAcc} {uP : sPar} {uC : sCla} {uD : sDeb} {uJ : sJou} {ur : xF32} {ut : xF32} {ud : Int32} {ug : Int32} {uT0 : Int32} {uT1 : xF32} {uT2 : Int32} {uT3 : Int32} {uT4 : Int32} {uT5 : xF32} {uT6 : xF32} {uT7 : xF32} {uT8 : xF32} {uG0 : Int32} {uG1 : xF32} {uG2 : xF32} {uM0 : Int32} {uM1 : Int32} {uM2 : Int32} {uM3 : Int32} {uM4 : Int32} {uF0 : Int32} {uF1 : xF64} {uF2 : xF64} {uF3 : xF64} {uF4 : xF64} {uF5 : Int32} {uF6 : Int32} {uF7 : Int32} {uF8 : xF32} {uF9 : Int32} {uF10 : Int32} {uF11 : Int64} {uF12 : xF32} {uF13 : Int32} {uF14 : Int32} {uF15 : Int32} {uF16 : xF32} {uF17 : xF32} {uF18 : Int32} {uo : xF64} {uv : Nat → UInt64} {yF0 : Int32} {yo : xF64} {A : Nat → Prop} {p : Program} {e : Env} {s : State} {m : MethodId} {args : Array Value} {below : List Frame} {meth : Method} {c : Code} {Q : State → Prop} {b L i kc ks : Nat} {xs : Nat → Int32}
    (hc : xC κ A p s m args meth c cL_law RL 9 (some .boolean)) (hlt : l.stackTraces = false) (hX : va_X b L xs s s.heap) (hbl : b < s.heap.size) (hbA : ¬ A b) (h1 : vp_in ((nI i) + 1) L) (h2 : vp_in ((nI i) + 2) L) (h3 : vp_in ((nI i) + 3) L) (e1 : xs ((nI i) + 1).toNatClampNeg = a1) (e2 : xs ((nI i) + 2).toNatClampNeg = a2) (e3 : xs ((nI i) + 3).toNatClampNeg = a3) (hz0 : kc ≤ room_1.cells ∧ ks ≤ room_1.slots) (hz1 : kc + 1 ≤ room_1.cells ∧ ks + 6 ≤ room_1.slots)
    (hf : f_C_27 fu a1 a2 uD ur ug uF0 uF1 uo = some (yF0, yo))
    (K : ∀ (H : Heap) (locs : List Loc) (ls : Array Slot), xW κ A s (upA uA 0 (uP, uC, uD, uJ, ur, ut, ud, ug), (uT0, uT1, uT2, uT3, uT4, uT5, uT6, uT7, uT8), (uG0, uG1, uG2), (uM0, uM1, uM2, uM3, uM4), (yF0, uF1, uF2, uF3, uF4, uF5, uF6, uF7, uF8, uF9, uF10, uF11, uF12, uF13, uF14, uF15, uF16, uF17, uF18), yo, uv) H locs → lv_has ls 9 [(0, .ref b), (1, .ref (xAd κ 234)), (2, .ref (xAd κ 245)), (3, .ref (xAd κ 254)), (4, .ref (xAd κ 255)), (5, .int (nI i))] → W p l e room_1 s m args below meth c H locs (kc + 1) (ks + 6) Q (F0 m 2367 ls [])) :
    ∀ (H : Heap) (locs : List Loc) (ls : Array Slot), xW κ A s (upA uA 0 (uP, uC, uD, uJ, ur, ut, ud, ug), (uT0, uT1, uT2, uT3, uT4, uT5, uT6, uT7, uT8), (uG0, uG1, uG2), (uM0, uM1, uM2, uM3, uM4), (uF0, uF1, uF2, uF3, uF4, uF5, uF6, uF7, uF8, uF9, uF10, uF11, uF12, uF13, uF14, uF15, uF16, uF17, uF18), uo, uv) H locs → lv_has ls 9 [(0, .ref b), (1, .ref (xAd κ 234)), (2, .ref (xAd κ 245)), (3, .ref (xAd κ 254)), (4, .ref (xAd κ 255)), (5, .int (nI i))] → W p l e room_1 s m args below meth c H locs kc ks Q (F0 m 1738 ls []) := by
  have hx := hc.1.1
  have hb := hc.1.2.1
  intro H locs ls hw hl
  unfold f_C_27 at hf
  refine lv_aload_n hx hb dL_law_1738 rfl (lv_at hl 1 rfl) ?_
  refine lv_aload_n hx hb dL_law_1739 rfl (lv_at hl 0 rfl) ?_
  refine lv_iload hx hb dL_law_1740 (lv_at hl 5 rfl) ?_
  refine lv_iconst (v := 1) hx hb dL_law_1742 (by decide) ?_
  refine lv_iadd hx hb dL_law_1743 ?_
  refine va_sld hx hb hX hbl hbA hw.2 h1 dL_law_1744 ?_
  rw [e1]
  refine lv_aload_n hx hb dL_law_1745 rfl (lv_at hl 0 rfl) ?_
  refine lv_iload hx hb dL_law_1746 (lv_at hl 5 rfl) ?_
  refine lv_iconst (v := 2) hx hb dL_law_1748 (by decide) ?_
  refine lv_iadd hx hb dL_law_1749 ?_
  refine va_sld hx hb hX hbl hbA hw.2 h2 dL_law_1750 ?_
  rw [e2]
  refine lv_aload_n hx hb dL_law_1751 rfl (lv_at hl 3 rfl) ?_
  obtain ⟨v1, uo_2, h3, hf⟩ := xb2_of hf
  refine x_hcalliS (As := [.ref (xAd κ 234), .int a1, .int a2, .ref (xAd κ 254)]) (rest := []) (σ' := (upA uA 0 (uP, uC, uD, uJ, ur, ut, ud, ug), (uT0, uT1, uT2, uT3, uT4, uT5, uT6, uT7, uT8), (uG0, uG1, uG2), (uM0, uM1, uM2, uM3, uM4), (uF0, uF1, uF2, uF3, uF4, uF5, uF6, uF7, uF8, uF9, uF10, uF11, uF12, uF13, uF14, uF15, uF16, uF17, uF18), uo_2, uv)) hc hw hl.1 hlt (m_L_growsTo h3) kL_232 rfl rfl ⟨rfl, rfl⟩ ⟨Nat.le_of_ble_eq_true rfl, Nat.le_of_ble_eq_true rfl⟩ hz1 (Nat.le_of_ble_eq_true rfl) dL_law_1752 (fun H locs hw => ?_)
  refine lv_istore (lv' := [(6, .int v1), (0, .ref b), (1, .ref (xAd κ 234)), (2, .ref (xAd κ 245)), (3, .ref (xAd κ 254)), (4, .ref (xAd κ 255)), (5, .int (nI i))]) hx hb dL_law_1755 hl (by decide) rfl (fun ls hl => ?_)
  refine lv_aload_n hx hb dL_law_1757 rfl (lv_at hl 3 rfl) ?_
  refine lv_aload_n hx hb dL_law_1758 rfl (lv_at hl 1 rfl) ?_
  refine lv_iload hx hb dL_law_1759 (lv_at hl 6 rfl) ?_
  refine lv_iconst (v := 1) hx hb dL_law_1761 (by decide) ?_
  refine lv_iadd hx hb dL_law_1762 ?_
  refine va_sld hx hb hX hbl hbA hw.2 h1 dL_law_1763 ?_
  rw [e1]
  refine lv_aload_n hx hb dL_law_1764 rfl (lv_at hl 1 rfl) ?_
  refine lv_iload hx hb dL_law_1765 (lv_at hl 6 rfl) ?_
  refine lv_iconst (v := 2) hx hb dL_law_1767 (by decide) ?_
  refine lv_iadd hx hb dL_law_1768 ?_
  refine va_sld hx hb hX hbl hbA hw.2 h2 dL_law_1769 ?_
  rw [e2]
  obtain ⟨v4, uF0_5, h6, hf⟩ := xb2_of hf
  refine x_calliV (As := [.int a1, .int a2]) (rest := []) (σ' := (upA uA 0 (uP, uC, uD, uJ, ur, ut, ud, ug), (uT0, uT1, uT2, uT3, uT4, uT5, uT6, uT7, uT8), (uG0, uG1, uG2), (uM0, uM1, uM2, uM3, uM4), (uF0_5, uF1, uF2, uF3, uF4, uF5, uF6, uF7, uF8, uF9, uF10, uF11, uF12, uF13, uF14, uF15, uF16, uF17, uF18), uo_2, uv)) hc hw hl.1 (m_X8_growsTo h6) kL_234 co_245 rfl rfl ⟨rfl, rfl⟩ ⟨Nat.le_of_ble_eq_true rfl, Nat.le_of_ble_eq_true rfl⟩ hz1 (Nat.le_of_ble_eq_true rfl) dL_law_1770 (fun H locs hw => ?_)
  refine lv_istore (lv' := [(7, .int v4), (6, .int v1), (0, .ref b), (1, .ref (xAd κ 234)), (2, .ref (xAd κ 245)), (3, .ref (xAd κ 254)), (4, .ref (xAd κ 255)), (5, .int (nI i))]) hx hb dL_law_1773 hl (by decide) rfl (fun ls hl => ?_)
  refine lv_aload_n hx hb dL_law_1775 rfl (lv_at hl 4 rfl) ?_
  obtain ⟨v7, h8, hf⟩ := xb1_of hf
  refine x_calliV (As := []) (rest := []) (σ' := (upA uA 0 (uP, uC, uD, uJ, ur, ut, ud, ug), (uT0, uT1, uT2, uT3, uT4, uT5, uT6, uT7, uT8), (uG0, uG1, uG2), (uM0, uM1, uM2, uM3, uM4), (uF0_5, uF1, uF2, uF3, uF4, uF5, uF6, uF7, uF8, uF9, uF10, uF11, uF12, uF13, uF14, uF15, uF16, uF17, uF18), uo_2, uv)) hc hw hl.1 (m_X8_thrown h8) kL_148 co_245 rfl rfl ⟨rfl, rfl⟩ ⟨Nat.le_of_ble_eq_true rfl, Nat.le_of_ble_eq_true rfl⟩ hz1 (Nat.le_of_ble_eq_true rfl) dL_law_1776 (fun H locs hw => ?_)
  refine lv_iload hx hb dL_law_1779 (lv_at hl 1 rfl) ?_
  refine lv_icmp_eq (tgt := 1786) hx hb dL_law_1781 (by decide) (fun c9 => ?_) (fun c9 => ?_)
  · have hf := xif_t c9 hf
    refine lv_iload hx hb dL_law_1786 (lv_at hl 1 rfl) ?_
    refine lv_if_ne (tgt := 1803) hx hb dL_law_1788 (by decide) (fun c10 => ?_) (fun c10 => ?_)
    · have hf := xif_f c10 hf
      refine lv_goto (tgt := 2367) hx hb dL_law_1803 (by decide) ?_
      cases hf
      exact K _ _ _ hw (lv_sub hl [2, 3, 4, 5, 6, 7] rfl)
    · have hf := xif_t c10 hf
      refine lv_aload_n hx hb dL_law_1791 rfl (lv_at hl 5 rfl) ?_
      refine lv_iconst (v := 0) hx hb dL_law_1792 (by decide) ?_
      obtain ⟨k11, hf⟩ := xk_of hf
      refine x_lald (n := 1) (f := uo_2) hc hw co_254 k11 dL_law_1793 ?_
      refine lv_iload hx hb dL_law_1794 (lv_at hl 0 rfl) ?_
      refine lv_i2l (v := v4.toInt64) hx hb dL_law_1796 rfl ?_
      refine x_lcmp_eq (tgt := 1803) hx hb dL_law_1797 dL_law_1798 (by decide) (fun c12 => ?_) (fun c12 => ?_)
      · have hf := xif_t c12 hf
        refine lv_goto (tgt := 2367) hx hb dL_law_1803 (by decide) ?_
        cases hf
        exact K _ _ _ hw (lv_sub hl [2, 3, 4, 5, 6, 7] rfl)
      · have hf := xif_f c12 hf
        refine lv_iconst (v := 0) hx hb dL_law_1801 (by decide) ?_
        cases hf
  · have hf := xif_f c9 hf
    refine lv_iconst (v := 0) hx hb dL_law_1784 (by decide) ?_
    cases hf
set_option maxHeartbeats 4000000 in
set_option maxRecDepth 100000 in
theorem q_28 {l : Launch} {κ : xKt} {fu : Nat} {a1 a2 a3 : Int32} {uA : Nat → sAcc} {uP : sPar} {uC : sCla} {uD : sDeb} {uJ : sJou} {ur : xF32} {ut : xF32} {ud : Int32} {ug : Int32} {uT0 : Int32} {uT1 : xF32} {uT2 : Int32} {uT3 : Int32} {uT4 : Int32} {uT5 : xF32} {uT6 : xF32} {uT7 : xF32} {uT8 : xF32} {uG0 : Int32} {uG1 : xF32} {uG2 : xF32} {uM0 : Int32} {uM1 : Int32} {uM2 : Int32} {uM3 : Int32} {uM4 : Int32} {uF0 : Int32} {uF1 : xF64} {uF2 : xF64} {uF3 : xF64} {uF4 : xF64} {uF5 : Int32} {uF6 : Int32} {uF7 : Int32} {uF8 : xF32} {uF9 : Int32} {uF10 : Int32} {uF11 : Int64} {uF12 : xF32} {uF13 : Int32} {uF14 : Int32} {uF15 : Int32} {uF16 : xF32} {uF17 : xF32} {uF18 : Int32} {uo : xF64} {uv : Nat → UInt64} {yA : Nat → sAcc} {yD : sDeb} {yd : Int32} {yM1 : Int32} {yM2 : Int32} {yM3 : Int32} {yF0 : Int32} {yF1 : xF64} {yF3 : xF64} {yF4 : xF64} {yF5 : Int32} {yF11 : Int64} {yo : xF64} {A : Nat → Prop} {p : Program} {e : Env} {s : State} {m : MethodId} {args : Array Value} {below : List Frame} {meth : Method} {c : Code} {Q : State → Prop} {b L i kc ks : Nat} {xs : Nat → Int32}
    (hc : xC κ A p s m args meth c cL_law RL 9 (some .boolean)) (hlt : l.stackTraces = false) (hX : va_X b L xs s s.heap) (hbl : b < s.heap.size) (hbA : ¬ A b) (h1 : vp_in ((nI i) + 1) L) (h2 : vp_in ((nI i) + 2) L) (h3 : vp_in ((nI i) + 3) L) (e1 : xs ((nI i) + 1).toNatClampNeg = a1) (e2 : xs ((nI i) + 2).toNatClampNeg = a2) (e3 : xs ((nI i) + 3).toNatClampNeg = a3) (hz0 : kc ≤ room_1.cells ∧ ks ≤ room_1.slots) (hz1 : kc + 1 ≤ room_1.cells ∧ ks + 6 ≤ room_1.slots)
    (hf : f_C_28 fu a1 uA uP uC uD uJ ur ut ud ug uM1 uM2 uM3 uF0 uF1 uF3 uF4 uF5 uF11 uo = some (yA, yD, yd, yM1, yM2, yM3, yF0, yF1, yF3, yF4, yF5, yF11, yo))
    (K : ∀ (H : Heap) (locs : List Loc) (ls : Array Slot), xW κ A s (upA yA 0 (uP, uC, yD, uJ, ur, ut, yd, ug), (uT0, uT1, uT2, uT3, uT4, uT5, uT6, uT7, uT8), (uG0, uG1, uG2), (uM0, yM1, yM2, yM3, uM4), (yF0, yF1, uF2, yF3, yF4, yF5, uF6, uF7, uF8, uF9, uF10, yF11, uF12, uF13, uF14, uF15, uF16, uF17, uF18), yo, uv) H locs → lv_has ls 9 [(0, .ref b), (1, .ref (xAd κ 234)), (2, .ref (xAd κ 245)), (3, .ref (xAd κ 254)), (4, .ref (xAd κ 255)), (5, .int (nI i))] → W p l e room_1 s m args below meth c H locs (kc + 1) (ks + 6) Q (F0 m 2367 ls [])) :
    ∀ (H : Heap) (locs : List Loc) (ls : Array Slot), xW κ A s (upA uA 0 (uP, uC, uD, uJ, ur, ut, ud, ug), (uT0, uT1, uT2, uT3, uT4, uT5, uT6, uT7, uT8), (uG0, uG1, uG2), (uM0, uM1, uM2, uM3, uM4), (uF0, uF1, uF2, uF3, uF4, uF5, uF6, uF7, uF8, uF9, uF10, uF11, uF12, uF13, uF14, uF15, uF16, uF17, uF18), uo, uv) H locs → lv_has ls 9 [(0, .ref b), (1, .ref (xAd κ 234)), (2, .ref (xAd κ 245)), (3, .ref (xAd κ 254)), (4, .ref (xAd κ 255)), (5, .int (nI i))] → W p l e room_1 s m args below meth c H locs kc ks Q (F0 m 1806 ls []) := by
  have hx := hc.1.1
  have hb := hc.1.2.1
  intro H locs ls hw hl
  unfold f_C_28 at hf
  refine lv_aload_n hx hb dL_law_1806 rfl (lv_at hl 1 rfl) ?_
  refine lv_aload_n hx hb dL_law_1807 rfl (lv_at hl 0 rfl) ?_
  refine lv_iload hx hb dL_law_1808 (lv_at hl 5 rfl) ?_
  refine lv_iconst (v := 1) hx hb dL_law_1810 (by decide) ?_
  refine lv_iadd hx hb dL_law_1811 ?_
  refine va_sld hx hb hX hbl hbA hw.2 h1 dL_law_1812 ?_
  rw [e1]
  refine lv_aload_n hx hb dL_law_1813 rfl (lv_at hl 3 rfl) ?_
  obtain ⟨v1, uA_2, uD_3, ud_4, uM1_5, uM2_6, uM3_7, uo_8, h9, hf⟩ := xb8_of hf
  refine x_hcalliS (As := [.ref (xAd κ 234), .int a1, .ref (xAd κ 254)]) (rest := []) (σ' := (upA uA_2 0 (uP, uC, uD_3, uJ, ur, ut, ud_4, ug), (uT0, uT1, uT2, uT3, uT4, uT5, uT6, uT7, uT8), (uG0, uG1, uG2), (uM0, uM1_5, uM2_6, uM3_7, uM4), (uF0, uF1, uF2, uF3, uF4, uF5, uF6, uF7, uF8, uF9, uF10, uF11, uF12, uF13, uF14, uF15, uF16, uF17, uF18), uo_8, uv)) hc hw hl.1 hlt (m_L_pass h9) kL_235 rfl rfl ⟨rfl, rfl⟩ ⟨Nat.le_of_ble_eq_true rfl, Nat.le_of_ble_eq_true rfl⟩ hz1 (Nat.le_of_ble_eq_true rfl) dL_law_1814 (fun H locs hw => ?_)
  refine lv_istore (lv' := [(6, .int v1), (0, .ref b), (1, .ref (xAd κ 234)), (2, .ref (xAd κ 245)), (3, .ref (xAd κ 254)), (4, .ref (xAd κ 255)), (5, .int (nI i))]) hx hb dL_law_1817 hl (by decide) rfl (fun ls hl => ?_)
  refine lv_aload_n hx hb dL_law_1819 rfl (lv_at hl 3 rfl) ?_
  refine lv_aload_n hx hb dL_law_1820 rfl (lv_at hl 1 rfl) ?_
  refine lv_iload hx hb dL_law_1821 (lv_at hl 6 rfl) ?_
  refine lv_iconst (v := 1) hx hb dL_law_1823 (by decide) ?_
  refine lv_iadd hx hb dL_law_1824 ?_
  refine va_sld hx hb hX hbl hbA hw.2 h1 dL_law_1825 ?_
  rw [e1]
  obtain ⟨v10, uF0_11, uF1_12, uF3_13, uF4_14, uF5_15, uF11_16, h17, hf⟩ := xb7_of hf
  refine x_calllV (As := [.int a1]) (rest := []) (σ' := (upA uA_2 0 (uP, uC, uD_3, uJ, ur, ut, ud_4, ug), (uT0, uT1, uT2, uT3, uT4, uT5, uT6, uT7, uT8), (uG0, uG1, uG2), (uM0, uM1_5, uM2_6, uM3_7, uM4), (uF0_11, uF1_12, uF2, uF3_13, uF4_14, uF5_15, uF6, uF7, uF8, uF9, uF10, uF11_16, uF12, uF13, uF14, uF15, uF16, uF17, uF18), uo_8, uv)) hc hw hl.1 (m_X8_pass h17) kL_237 co_245 rfl rfl ⟨rfl, rfl⟩ ⟨Nat.le_of_ble_eq_true rfl, Nat.le_of_ble_eq_true rfl⟩ hz1 (Nat.le_of_ble_eq_true rfl) dL_law_1826 (fun H locs hw => ?_)
  refine lv_lstore (lv' := [(7, .long v10), (6, .int v1), (0, .ref b), (1, .ref (xAd κ 234)), (2, .ref (xAd κ 245)), (3, .ref (xAd κ 254)), (4, .ref (xAd κ 255)), (5, .int (nI i))]) hx hb dL_law_1829 hl (by decide) rfl (fun ls hl => ?_)
  refine lv_aload_n hx hb dL_law_1831 rfl (lv_at hl 4 rfl) ?_
  obtain ⟨v18, h19, hf⟩ := xb1_of hf
  refine x_calliV (As := []) (rest := []) (σ' := (upA uA_2 0 (uP, uC, uD_3, uJ, ur, ut, ud_4, ug), (uT0, uT1, uT2, uT3, uT4, uT5, uT6, uT7, uT8), (uG0, uG1, uG2), (uM0, uM1_5, uM2_6, uM3_7, uM4), (uF0_11, uF1_12, uF2, uF3_13, uF4_14, uF5_15, uF6, uF7, uF8, uF9, uF10, uF11_16, uF12, uF13, uF14, uF15, uF16, uF17, uF18), uo_8, uv)) hc hw hl.1 (m_X8_thrown h19) kL_148 co_245 rfl rfl ⟨rfl, rfl⟩ ⟨Nat.le_of_ble_eq_true rfl, Nat.le_of_ble_eq_true rfl⟩ hz1 (Nat.le_of_ble_eq_true rfl) dL_law_1832 (fun H locs hw => ?_)
  refine lv_iload hx hb dL_law_1835 (lv_at hl 1 rfl) ?_
  refine lv_icmp_eq (tgt := 1842) hx hb dL_law_1837 (by decide) (fun c20 => ?_) (fun c20 => ?_)
  · have hf := xif_t c20 hf
    refine lv_iload hx hb dL_law_1842 (lv_at hl 1 rfl) ?_
    refine lv_if_ne (tgt := 1858) hx hb dL_law_1844 (by decide) (fun c21 => ?_) (fun c21 => ?_)
    · have hf := xif_f c21 hf
      refine lv_goto (tgt := 2367) hx hb dL_law_1858 (by decide) ?_
      cases hf
      exact K _ _ _ hw (lv_sub hl [2, 3, 4, 5, 6, 7] rfl)
    · have hf := xif_t c21 hf
      refine lv_aload_n hx hb dL_law_1847 rfl (lv_at hl 5 rfl) ?_
      refine lv_iconst (v := 0) hx hb dL_law_1848 (by decide) ?_
      obtain ⟨k22, hf⟩ := xk_of hf
      refine x_lald (n := 1) (f := uo_8) hc hw co_254 k22 dL_law_1849 ?_
      refine lv_lload hx hb dL_law_1850 (lv_at hl 0 rfl) ?_
      refine x_lcmp_eq (tgt := 1858) hx hb dL_law_1852 dL_law_1853 (by decide) (fun c23 => ?_) (fun c23 => ?_)
      · have hf := xif_t c23 hf
        refine lv_goto (tgt := 2367) hx hb dL_law_1858 (by decide) ?_
        cases hf
        exact K _ _ _ hw (lv_sub hl [2, 3, 4, 5, 6, 7] rfl)
      · have hf := xif_f c23 hf
        refine lv_iconst (v := 0) hx hb dL_law_1856 (by decide) ?_
        cases hf
  · have hf := xif_f c20 hf
    refine lv_iconst (v := 0) hx hb dL_law_1840 (by decide) ?_
    cases hf
set_option maxHeartbeats 4000000 in
set_option maxRecDepth 100000 in
theorem q_29 {l : Launch} {κ : xKt} {fu : Nat} {a1 a2 a3 : Int32} {uA : Nat → sAcc} {uP : sPar} {uC : sCla} {uD : sDeb} {uJ : sJou} {ur : xF32} {ut : xF32} {ud : Int32} {ug : Int32} {uT0 : Int32} {uT1 : xF32} {uT2 : Int32} {uT3 : Int32} {uT4 : Int32} {uT5 : xF32} {uT6 : xF32} {uT7 : xF32} {uT8 : xF32} {uG0 : Int32} {uG1 : xF32} {uG2 : xF32} {uM0 : Int32} {uM1 : Int32} {uM2 : Int32} {uM3 : Int32} {uM4 : Int32} {uF0 : Int32} {uF1 : xF64} {uF2 : xF64} {uF3 : xF64} {uF4 : xF64} {uF5 : Int32} {uF6 : Int32} {uF7 : Int32} {uF8 : xF32} {uF9 : Int32} {uF10 : Int32} {uF11 : Int64} {uF12 : xF32} {uF13 : Int32} {uF14 : Int32} {uF15 : Int32} {uF16 : xF32} {uF17 : xF32} {uF18 : Int32} {uo : xF64} {uv : Nat → UInt64} {yA : Nat → sAcc} {yg : Int32} {yM1 : Int32} {yM2 : Int32} {yM3 : Int32} {yF0 : Int32} {yF1 : xF64} {yF3 : xF64} {yF4 : xF64} {yF5 : Int32} {yF11 : Int64} {yo : xF64} {A : Nat → Prop} {p : Program} {e : Env} {s : State} {m : MethodId} {args : Array Value} {below : List Frame} {meth : Method} {c : Code} {Q : State → Prop} {b L i kc ks : Nat} {xs : Nat → Int32}
    (hc : xC κ A p s m args meth c cL_law RL 9 (some .boolean)) (hlt : l.stackTraces = false) (hX : va_X b L xs s s.heap) (hbl : b < s.heap.size) (hbA : ¬ A b) (h1 : vp_in ((nI i) + 1) L) (h2 : vp_in ((nI i) + 2) L) (h3 : vp_in ((nI i) + 3) L) (e1 : xs ((nI i) + 1).toNatClampNeg = a1) (e2 : xs ((nI i) + 2).toNatClampNeg = a2) (e3 : xs ((nI i) + 3).toNatClampNeg = a3) (hz0 : kc ≤ room_1.cells ∧ ks ≤ room_1.slots) (hz1 : kc + 1 ≤ room_1.cells ∧ ks + 6 ≤ room_1.slots)
    (hf : f_C_29 fu uA uP uC uD uJ ur ut ud ug uM1 uM2 uM3 uF0 uF1 uF3 uF4 uF5 uF11 uo = some (yA, yg, yM1, yM2, yM3, yF0, yF1, yF3, yF4, yF5, yF11, yo))
    (K : ∀ (H : Heap) (locs : List Loc) (ls : Array Slot), xW κ A s (upA yA 0 (uP, uC, uD, uJ, ur, ut, ud, yg), (uT0, uT1, uT2, uT3, uT4, uT5, uT6, uT7, uT8), (uG0, uG1, uG2), (uM0, yM1, yM2, yM3, uM4), (yF0, yF1, uF2, yF3, yF4, yF5, uF6, uF7, uF8, uF9, uF10, yF11, uF12, uF13, uF14, uF15, uF16, uF17, uF18), yo, uv) H locs → lv_has ls 9 [(0, .ref b), (1, .ref (xAd κ 234)), (2, .ref (xAd κ 245)), (3, .ref (xAd κ 254)), (4, .ref (xAd κ 255)), (5, .int (nI i))] → W p l e room_1 s m args below meth c H locs (kc + 1) (ks + 6) Q (F0 m 2367 ls [])) :
    ∀ (H : Heap) (locs : List Loc) (ls : Array Slot), xW κ A s (upA uA 0 (uP, uC, uD, uJ, ur, ut, ud, ug), (uT0, uT1, uT2, uT3, uT4, uT5, uT6, uT7, uT8), (uG0, uG1, uG2), (uM0, uM1, uM2, uM3, uM4), (uF0, uF1, uF2, uF3, uF4, uF5, uF6, uF7, uF8, uF9, uF10, uF11, uF12, uF13, uF14, uF15, uF16, uF17, uF18), uo, uv) H locs → lv_has ls 9 [(0, .ref b), (1, .ref (xAd κ 234)), (2, .ref (xAd κ 245)), (3, .ref (xAd κ 254)), (4, .ref (xAd κ 255)), (5, .int (nI i))] → W p l e room_1 s m args below meth c H locs kc ks Q (F0 m 1861 ls []) := by
  have hx := hc.1.1
  have hb := hc.1.2.1
  intro H locs ls hw hl
  unfold f_C_29 at hf
  refine lv_aload_n hx hb dL_law_1861 rfl (lv_at hl 1 rfl) ?_
  refine lv_aload_n hx hb dL_law_1862 rfl (lv_at hl 3 rfl) ?_
  obtain ⟨v1, uA_2, ug_3, uM1_4, uM2_5, uM3_6, uo_7, h8, hf⟩ := xb7_of hf
  refine x_hcalliS (As := [.ref (xAd κ 234), .ref (xAd κ 254)]) (rest := []) (σ' := (upA uA_2 0 (uP, uC, uD, uJ, ur, ut, ud, ug_3), (uT0, uT1, uT2, uT3, uT4, uT5, uT6, uT7, uT8), (uG0, uG1, uG2), (uM0, uM1_4, uM2_5, uM3_6, uM4), (uF0, uF1, uF2, uF3, uF4, uF5, uF6, uF7, uF8, uF9, uF10, uF11, uF12, uF13, uF14, uF15, uF16, uF17, uF18), uo_7, uv)) hc hw hl.1 hlt (m_L_goOn h8) kL_238 rfl rfl ⟨rfl, rfl⟩ ⟨Nat.le_of_ble_eq_true rfl, Nat.le_of_ble_eq_true rfl⟩ hz1 (Nat.le_of_ble_eq_true rfl) dL_law_1863 (fun H locs hw => ?_)
  refine lv_istore (lv' := [(6, .int v1), (0, .ref b), (1, .ref (xAd κ 234)), (2, .ref (xAd κ 245)), (3, .ref (xAd κ 254)), (4, .ref (xAd κ 255)), (5, .int (nI i))]) hx hb dL_law_1866 hl (by decide) rfl (fun ls hl => ?_)
  refine lv_aload_n hx hb dL_law_1868 rfl (lv_at hl 3 rfl) ?_
  obtain ⟨v9, uF0_10, uF1_11, uF3_12, uF4_13, uF5_14, uF11_15, h16, hf⟩ := xb7_of hf
  refine x_calliV (As := []) (rest := []) (σ' := (upA uA_2 0 (uP, uC, uD, uJ, ur, ut, ud, ug_3), (uT0, uT1, uT2, uT3, uT4, uT5, uT6, uT7, uT8), (uG0, uG1, uG2), (uM0, uM1_4, uM2_5, uM3_6, uM4), (uF0_10, uF1_11, uF2, uF3_12, uF4_13, uF5_14, uF6, uF7, uF8, uF9, uF10, uF11_15, uF12, uF13, uF14, uF15, uF16, uF17, uF18), uo_7, uv)) hc hw hl.1 (m_X8_goOn h16) kL_240 co_245 rfl rfl ⟨rfl, rfl⟩ ⟨Nat.le_of_ble_eq_true rfl, Nat.le_of_ble_eq_true rfl⟩ hz1 (Nat.le_of_ble_eq_true rfl) dL_law_1869 (fun H locs hw => ?_)
  refine lv_istore (lv' := [(7, .int v9), (6, .int v1), (0, .ref b), (1, .ref (xAd κ 234)), (2, .ref (xAd κ 245)), (3, .ref (xAd κ 254)), (4, .ref (xAd κ 255)), (5, .int (nI i))]) hx hb dL_law_1872 hl (by decide) rfl (fun ls hl => ?_)
  refine lv_aload_n hx hb dL_law_1874 rfl (lv_at hl 4 rfl) ?_
  obtain ⟨v17, h18, hf⟩ := xb1_of hf
  refine x_calliV (As := []) (rest := []) (σ' := (upA uA_2 0 (uP, uC, uD, uJ, ur, ut, ud, ug_3), (uT0, uT1, uT2, uT3, uT4, uT5, uT6, uT7, uT8), (uG0, uG1, uG2), (uM0, uM1_4, uM2_5, uM3_6, uM4), (uF0_10, uF1_11, uF2, uF3_12, uF4_13, uF5_14, uF6, uF7, uF8, uF9, uF10, uF11_15, uF12, uF13, uF14, uF15, uF16, uF17, uF18), uo_7, uv)) hc hw hl.1 (m_X8_thrown h18) kL_148 co_245 rfl rfl ⟨rfl, rfl⟩ ⟨Nat.le_of_ble_eq_true rfl, Nat.le_of_ble_eq_true rfl⟩ hz1 (Nat.le_of_ble_eq_true rfl) dL_law_1875 (fun H locs hw => ?_)
  refine lv_iload hx hb dL_law_1878 (lv_at hl 1 rfl) ?_
  refine lv_icmp_eq (tgt := 1885) hx hb dL_law_1880 (by decide) (fun c19 => ?_) (fun c19 => ?_)
  · have hf := xif_t c19 hf
    refine lv_iload hx hb dL_law_1885 (lv_at hl 1 rfl) ?_
    refine lv_if_ne (tgt := 1902) hx hb dL_law_1887 (by decide) (fun c20 => ?_) (fun c20 => ?_)
    · have hf := xif_f c20 hf
      refine lv_goto (tgt := 2367) hx hb dL_law_1902 (by decide) ?_
      cases hf
      exact K _ _ _ hw (lv_sub hl [2, 3, 4, 5, 6, 7] rfl)
    · have hf := xif_t c20 hf
      refine lv_aload_n hx hb dL_law_1890 rfl (lv_at hl 5 rfl) ?_
      refine lv_iconst (v := 0) hx hb dL_law_1891 (by decide) ?_
      obtain ⟨k21, hf⟩ := xk_of hf
      refine x_lald (n := 1) (f := uo_7) hc hw co_254 k21 dL_law_1892 ?_
      refine lv_iload hx hb dL_law_1893 (lv_at hl 0 rfl) ?_
      refine lv_i2l (v := v9.toInt64) hx hb dL_law_1895 rfl ?_
      refine x_lcmp_eq (tgt := 1902) hx hb dL_law_1896 dL_law_1897 (by decide) (fun c22 => ?_) (fun c22 => ?_)
      · have hf := xif_t c22 hf
        refine lv_goto (tgt := 2367) hx hb dL_law_1902 (by decide) ?_
        cases hf
        exact K _ _ _ hw (lv_sub hl [2, 3, 4, 5, 6, 7] rfl)
      · have hf := xif_f c22 hf
        refine lv_iconst (v := 0) hx hb dL_law_1900 (by decide) ?_
        cases hf
  · have hf := xif_f c19 hf
    refine lv_iconst (v := 0) hx hb dL_law_1883 (by decide) ?_
    cases hf
set_option maxHeartbeats 4000000 in
set_option maxRecDepth 100000 in
theorem q_30 {l : Launch} {κ : xKt} {fu : Nat} {a1 a2 a3 : Int32} {uA : Nat → sAcc} {uP : sPar} {uC : sCla} {uD : sDeb} {uJ : sJou} {ur : xF32} {ut : xF32} {ud : Int32} {ug : Int32} {uT0 : Int32} {uT1 : xF32} {uT2 : Int32} {uT3 : Int32} {uT4 : Int32} {uT5 : xF32} {uT6 : xF32} {uT7 : xF32} {uT8 : xF32} {uG0 : Int32} {uG1 : xF32} {uG2 : xF32} {uM0 : Int32} {uM1 : Int32} {uM2 : Int32} {uM3 : Int32} {uM4 : Int32} {uF0 : Int32} {uF1 : xF64} {uF2 : xF64} {uF3 : xF64} {uF4 : xF64} {uF5 : Int32} {uF6 : Int32} {uF7 : Int32} {uF8 : xF32} {uF9 : Int32} {uF10 : Int32} {uF11 : Int64} {uF12 : xF32} {uF13 : Int32} {uF14 : Int32} {uF15 : Int32} {uF16 : xF32} {uF17 : xF32} {uF18 : Int32} {uo : xF64} {uv : Nat → UInt64} {yF0 : Int32} {yo : xF64} {A : Nat → Prop} {p : Program} {e : Env} {s : State} {m : MethodId} {args : Array Value} {below : List Frame} {meth : Method} {c : Code} {Q : State → Prop} {b L i kc ks : Nat} {xs : Nat → Int32}
    (hc : xC κ A p s m args meth c cL_law RL 9 (some .boolean)) (hlt : l.stackTraces = false) (hX : va_X b L xs s s.heap) (hbl : b < s.heap.size) (hbA : ¬ A b) (h1 : vp_in ((nI i) + 1) L) (h2 : vp_in ((nI i) + 2) L) (h3 : vp_in ((nI i) + 3) L) (e1 : xs ((nI i) + 1).toNatClampNeg = a1) (e2 : xs ((nI i) + 2).toNatClampNeg = a2) (e3 : xs ((nI i) + 3).toNatClampNeg = a3) (hz0 : kc ≤ room_1.cells ∧ ks ≤ room_1.slots) (hz1 : kc + 1 ≤ room_1.cells ∧ ks + 6 ≤ room_1.slots)
    (hf : f_C_30 fu a1 uP uC uD ud ug uF0 uF1 uo = some (yF0, yo))
    (K : ∀ (H : Heap) (locs : List Loc) (ls : Array Slot), xW κ A s (upA uA 0 (uP, uC, uD, uJ, ur, ut, ud, ug), (uT0, uT1, uT2, uT3, uT4, uT5, uT6, uT7, uT8), (uG0, uG1, uG2), (uM0, uM1, uM2, uM3, uM4), (yF0, uF1, uF2, uF3, uF4, uF5, uF6, uF7, uF8, uF9, uF10, uF11, uF12, uF13, uF14, uF15, uF16, uF17, uF18), yo, uv) H locs → lv_has ls 9 [(0, .ref b), (1, .ref (xAd κ 234)), (2, .ref (xAd κ 245)), (3, .ref (xAd κ 254)), (4, .ref (xAd κ 255)), (5, .int (nI i))] → W p l e room_1 s m args below meth c H locs (kc + 1) (ks + 6) Q (F0 m 2367 ls [])) :
    ∀ (H : Heap) (locs : List Loc) (ls : Array Slot), xW κ A s (upA uA 0 (uP, uC, uD, uJ, ur, ut, ud, ug), (uT0, uT1, uT2, uT3, uT4, uT5, uT6, uT7, uT8), (uG0, uG1, uG2), (uM0, uM1, uM2, uM3, uM4), (uF0, uF1, uF2, uF3, uF4, uF5, uF6, uF7, uF8, uF9, uF10, uF11, uF12, uF13, uF14, uF15, uF16, uF17, uF18), uo, uv) H locs → lv_has ls 9 [(0, .ref b), (1, .ref (xAd κ 234)), (2, .ref (xAd κ 245)), (3, .ref (xAd κ 254)), (4, .ref (xAd κ 255)), (5, .int (nI i))] → W p l e room_1 s m args below meth c H locs kc ks Q (F0 m 1905 ls []) := by
  have hx := hc.1.1
  have hb := hc.1.2.1
  intro H locs ls hw hl
  unfold f_C_30 at hf
  refine lv_aload_n hx hb dL_law_1905 rfl (lv_at hl 1 rfl) ?_
  refine lv_aload_n hx hb dL_law_1906 rfl (lv_at hl 0 rfl) ?_
  refine lv_iload hx hb dL_law_1907 (lv_at hl 5 rfl) ?_
  refine lv_iconst (v := 1) hx hb dL_law_1909 (by decide) ?_
  refine lv_iadd hx hb dL_law_1910 ?_
  refine va_sld hx hb hX hbl hbA hw.2 h1 dL_law_1911 ?_
  rw [e1]
  refine lv_aload_n hx hb dL_law_1912 rfl (lv_at hl 3 rfl) ?_
  obtain ⟨v1, uo_2, h3, hf⟩ := xb2_of hf
  refine x_hcalliS (As := [.ref (xAd κ 234), .int a1, .ref (xAd κ 254)]) (rest := []) (σ' := (upA uA 0 (uP, uC, uD, uJ, ur, ut, ud, ug), (uT0, uT1, uT2, uT3, uT4, uT5, uT6, uT7, uT8), (uG0, uG1, uG2), (uM0, uM1, uM2, uM3, uM4), (uF0, uF1, uF2, uF3, uF4, uF5, uF6, uF7, uF8, uF9, uF10, uF11, uF12, uF13, uF14, uF15, uF16, uF17, uF18), uo_2, uv)) hc hw hl.1 hlt (m_L_account h3) kL_241 rfl rfl ⟨rfl, rfl⟩ ⟨Nat.le_of_ble_eq_true rfl, Nat.le_of_ble_eq_true rfl⟩ hz1 (Nat.le_of_ble_eq_true rfl) dL_law_1913 (fun H locs hw => ?_)
  refine lv_istore (lv' := [(6, .int v1), (0, .ref b), (1, .ref (xAd κ 234)), (2, .ref (xAd κ 245)), (3, .ref (xAd κ 254)), (4, .ref (xAd κ 255)), (5, .int (nI i))]) hx hb dL_law_1916 hl (by decide) rfl (fun ls hl => ?_)
  refine lv_aload_n hx hb dL_law_1918 rfl (lv_at hl 3 rfl) ?_
  refine lv_aload_n hx hb dL_law_1919 rfl (lv_at hl 1 rfl) ?_
  refine lv_iload hx hb dL_law_1920 (lv_at hl 6 rfl) ?_
  refine lv_iconst (v := 1) hx hb dL_law_1922 (by decide) ?_
  refine lv_iadd hx hb dL_law_1923 ?_
  refine va_sld hx hb hX hbl hbA hw.2 h1 dL_law_1924 ?_
  rw [e1]
  obtain ⟨v4, uF0_5, h6, hf⟩ := xb2_of hf
  refine x_calllV (As := [.int a1]) (rest := []) (σ' := (upA uA 0 (uP, uC, uD, uJ, ur, ut, ud, ug), (uT0, uT1, uT2, uT3, uT4, uT5, uT6, uT7, uT8), (uG0, uG1, uG2), (uM0, uM1, uM2, uM3, uM4), (uF0_5, uF1, uF2, uF3, uF4, uF5, uF6, uF7, uF8, uF9, uF10, uF11, uF12, uF13, uF14, uF15, uF16, uF17, uF18), uo_2, uv)) hc hw hl.1 (m_X8_account h6) kL_243 co_245 rfl rfl ⟨rfl, rfl⟩ ⟨Nat.le_of_ble_eq_true rfl, Nat.le_of_ble_eq_true rfl⟩ hz1 (Nat.le_of_ble_eq_true rfl) dL_law_1925 (fun H locs hw => ?_)
  refine lv_lstore (lv' := [(7, .long v4), (6, .int v1), (0, .ref b), (1, .ref (xAd κ 234)), (2, .ref (xAd κ 245)), (3, .ref (xAd κ 254)), (4, .ref (xAd κ 255)), (5, .int (nI i))]) hx hb dL_law_1928 hl (by decide) rfl (fun ls hl => ?_)
  refine lv_aload_n hx hb dL_law_1930 rfl (lv_at hl 4 rfl) ?_
  obtain ⟨v7, h8, hf⟩ := xb1_of hf
  refine x_calliV (As := []) (rest := []) (σ' := (upA uA 0 (uP, uC, uD, uJ, ur, ut, ud, ug), (uT0, uT1, uT2, uT3, uT4, uT5, uT6, uT7, uT8), (uG0, uG1, uG2), (uM0, uM1, uM2, uM3, uM4), (uF0_5, uF1, uF2, uF3, uF4, uF5, uF6, uF7, uF8, uF9, uF10, uF11, uF12, uF13, uF14, uF15, uF16, uF17, uF18), uo_2, uv)) hc hw hl.1 (m_X8_thrown h8) kL_148 co_245 rfl rfl ⟨rfl, rfl⟩ ⟨Nat.le_of_ble_eq_true rfl, Nat.le_of_ble_eq_true rfl⟩ hz1 (Nat.le_of_ble_eq_true rfl) dL_law_1931 (fun H locs hw => ?_)
  refine lv_iload hx hb dL_law_1934 (lv_at hl 1 rfl) ?_
  refine lv_icmp_eq (tgt := 1941) hx hb dL_law_1936 (by decide) (fun c9 => ?_) (fun c9 => ?_)
  · have hf := xif_t c9 hf
    refine lv_iload hx hb dL_law_1941 (lv_at hl 1 rfl) ?_
    refine lv_if_ne (tgt := 1957) hx hb dL_law_1943 (by decide) (fun c10 => ?_) (fun c10 => ?_)
    · have hf := xif_f c10 hf
      refine lv_goto (tgt := 2367) hx hb dL_law_1957 (by decide) ?_
      cases hf
      exact K _ _ _ hw (lv_sub hl [2, 3, 4, 5, 6, 7] rfl)
    · have hf := xif_t c10 hf
      refine lv_aload_n hx hb dL_law_1946 rfl (lv_at hl 5 rfl) ?_
      refine lv_iconst (v := 0) hx hb dL_law_1947 (by decide) ?_
      obtain ⟨k11, hf⟩ := xk_of hf
      refine x_lald (n := 1) (f := uo_2) hc hw co_254 k11 dL_law_1948 ?_
      refine lv_lload hx hb dL_law_1949 (lv_at hl 0 rfl) ?_
      refine x_lcmp_eq (tgt := 1957) hx hb dL_law_1951 dL_law_1952 (by decide) (fun c12 => ?_) (fun c12 => ?_)
      · have hf := xif_t c12 hf
        refine lv_goto (tgt := 2367) hx hb dL_law_1957 (by decide) ?_
        cases hf
        exact K _ _ _ hw (lv_sub hl [2, 3, 4, 5, 6, 7] rfl)
      · have hf := xif_f c12 hf
        refine lv_iconst (v := 0) hx hb dL_law_1955 (by decide) ?_
        cases hf
  · have hf := xif_f c9 hf
    refine lv_iconst (v := 0) hx hb dL_law_1939 (by decide) ?_
    cases hf
set_option maxHeartbeats 4000000 in
set_option maxRecDepth 100000 in
theorem q_31 {l : Launch} {κ : xKt} {fu : Nat} {a1 a2 a3 : Int32} {uA : Nat → sAcc} {uP : sPar} {uC : sCla} {uD : sDeb} {uJ : sJou} {ur : xF32} {ut : xF32} {ud : Int32} {ug : Int32} {uT0 : Int32} {uT1 : xF32} {uT2 : Int32} {uT3 : Int32} {uT4 : Int32} {uT5 : xF32} {uT6 : xF32} {uT7 : xF32} {uT8 : xF32} {uG0 : Int32} {uG1 : xF32} {uG2 : xF32} {uM0 : Int32} {uM1 : Int32} {uM2 : Int32} {uM3 : Int32} {uM4 : Int32} {uF0 : Int32} {uF1 : xF64} {uF2 : xF64} {uF3 : xF64} {uF4 : xF64} {uF5 : Int32} {uF6 : Int32} {uF7 : Int32} {uF8 : xF32} {uF9 : Int32} {uF10 : Int32} {uF11 : Int64} {uF12 : xF32} {uF13 : Int32} {uF14 : Int32} {uF15 : Int32} {uF16 : xF32} {uF17 : xF32} {uF18 : Int32} {uo : xF64} {uv : Nat → UInt64} {yF0 : Int32} {yo : xF64} {A : Nat → Prop} {p : Program} {e : Env} {s : State} {m : MethodId} {args : Array Value} {below : List Frame} {meth : Method} {c : Code} {Q : State → Prop} {b L i kc ks : Nat} {xs : Nat → Int32}
    (hc : xC κ A p s m args meth c cL_law RL 9 (some .boolean)) (hlt : l.stackTraces = false) (hX : va_X b L xs s s.heap) (hbl : b < s.heap.size) (hbA : ¬ A b) (h1 : vp_in ((nI i) + 1) L) (h2 : vp_in ((nI i) + 2) L) (h3 : vp_in ((nI i) + 3) L) (e1 : xs ((nI i) + 1).toNatClampNeg = a1) (e2 : xs ((nI i) + 2).toNatClampNeg = a2) (e3 : xs ((nI i) + 3).toNatClampNeg = a3) (hz0 : kc ≤ room_1.cells ∧ ks ≤ room_1.slots) (hz1 : kc + 1 ≤ room_1.cells ∧ ks + 6 ≤ room_1.slots)
    (hf : f_C_31 fu a1 a2 uJ uF0 uF1 uo = some (yF0, yo))
    (K : ∀ (H : Heap) (locs : List Loc) (ls : Array Slot), xW κ A s (upA uA 0 (uP, uC, uD, uJ, ur, ut, ud, ug), (uT0, uT1, uT2, uT3, uT4, uT5, uT6, uT7, uT8), (uG0, uG1, uG2), (uM0, uM1, uM2, uM3, uM4), (yF0, uF1, uF2, uF3, uF4, uF5, uF6, uF7, uF8, uF9, uF10, uF11, uF12, uF13, uF14, uF15, uF16, uF17, uF18), yo, uv) H locs → lv_has ls 9 [(0, .ref b), (1, .ref (xAd κ 234)), (2, .ref (xAd κ 245)), (3, .ref (xAd κ 254)), (4, .ref (xAd κ 255)), (5, .int (nI i))] → W p l e room_1 s m args below meth c H locs (kc + 1) (ks + 6) Q (F0 m 2367 ls [])) :
    ∀ (H : Heap) (locs : List Loc) (ls : Array Slot), xW κ A s (upA uA 0 (uP, uC, uD, uJ, ur, ut, ud, ug), (uT0, uT1, uT2, uT3, uT4, uT5, uT6, uT7, uT8), (uG0, uG1, uG2), (uM0, uM1, uM2, uM3, uM4), (uF0, uF1, uF2, uF3, uF4, uF5, uF6, uF7, uF8, uF9, uF10, uF11, uF12, uF13, uF14, uF15, uF16, uF17, uF18), uo, uv) H locs → lv_has ls 9 [(0, .ref b), (1, .ref (xAd κ 234)), (2, .ref (xAd κ 245)), (3, .ref (xAd κ 254)), (4, .ref (xAd κ 255)), (5, .int (nI i))] → W p l e room_1 s m args below meth c H locs kc ks Q (F0 m 1960 ls []) := by
  have hx := hc.1.1
  have hb := hc.1.2.1
  intro H locs ls hw hl
  unfold f_C_31 at hf
  refine lv_aload_n hx hb dL_law_1960 rfl (lv_at hl 1 rfl) ?_
  refine lv_aload_n hx hb dL_law_1961 rfl (lv_at hl 0 rfl) ?_
  refine lv_iload hx hb dL_law_1962 (lv_at hl 5 rfl) ?_
  refine lv_iconst (v := 1) hx hb dL_law_1964 (by decide) ?_
  refine lv_iadd hx hb dL_law_1965 ?_
  refine va_sld hx hb hX hbl hbA hw.2 h1 dL_law_1966 ?_
  rw [e1]
  refine lv_aload_n hx hb dL_law_1967 rfl (lv_at hl 0 rfl) ?_
  refine lv_iload hx hb dL_law_1968 (lv_at hl 5 rfl) ?_
  refine lv_iconst (v := 2) hx hb dL_law_1970 (by decide) ?_
  refine lv_iadd hx hb dL_law_1971 ?_
  refine va_sld hx hb hX hbl hbA hw.2 h2 dL_law_1972 ?_
  rw [e2]
  refine lv_if_eq (tgt := 1980) hx hb dL_law_1973 (by decide) (fun c1 => ?_) (fun c1 => ?_)
  · have hf := xif_t c1 hf
    refine lv_iconst (v := 0) hx hb dL_law_1980 (by decide) ?_
    refine lv_aload_n hx hb dL_law_1981 rfl (lv_at hl 3 rfl) ?_
    obtain ⟨v2, uo_3, h4, hf⟩ := xb2_of hf
    refine x_hcalliS (As := [.ref (xAd κ 234), .int a1, .int 0, .ref (xAd κ 254)]) (rest := []) (σ' := (upA uA 0 (uP, uC, uD, uJ, ur, ut, ud, ug), (uT0, uT1, uT2, uT3, uT4, uT5, uT6, uT7, uT8), (uG0, uG1, uG2), (uM0, uM1, uM2, uM3, uM4), (uF0, uF1, uF2, uF3, uF4, uF5, uF6, uF7, uF8, uF9, uF10, uF11, uF12, uF13, uF14, uF15, uF16, uF17, uF18), uo_3, uv)) hc hw hl.1 hlt (m_L_entry h4) kL_244 rfl rfl ⟨rfl, rfl⟩ ⟨Nat.le_of_ble_eq_true rfl, Nat.le_of_ble_eq_true rfl⟩ hz1 (Nat.le_of_ble_eq_true rfl) dL_law_1982 (fun H locs hw => ?_)
    refine lv_istore (lv' := [(6, .int v2), (0, .ref b), (1, .ref (xAd κ 234)), (2, .ref (xAd κ 245)), (3, .ref (xAd κ 254)), (4, .ref (xAd κ 255)), (5, .int (nI i))]) hx hb dL_law_1985 hl (by decide) rfl (fun ls hl => ?_)
    refine lv_aload_n hx hb dL_law_1987 rfl (lv_at hl 3 rfl) ?_
    refine lv_aload_n hx hb dL_law_1988 rfl (lv_at hl 1 rfl) ?_
    refine lv_iload hx hb dL_law_1989 (lv_at hl 6 rfl) ?_
    refine lv_iconst (v := 1) hx hb dL_law_1991 (by decide) ?_
    refine lv_iadd hx hb dL_law_1992 ?_
    refine va_sld hx hb hX hbl hbA hw.2 h1 dL_law_1993 ?_
    rw [e1]
    refine lv_aload_n hx hb dL_law_1994 rfl (lv_at hl 1 rfl) ?_
    refine lv_iload hx hb dL_law_1995 (lv_at hl 6 rfl) ?_
    refine lv_iconst (v := 2) hx hb dL_law_1997 (by decide) ?_
    refine lv_iadd hx hb dL_law_1998 ?_
    refine va_sld hx hb hX hbl hbA hw.2 h2 dL_law_1999 ?_
    rw [e2]
    refine lv_if_eq (tgt := 2007) hx hb dL_law_2000 (by decide) (fun c5 => ?_) (fun c5 => ?_)
    · have hf := xif_t c5 hf
      refine lv_iconst (v := 0) hx hb dL_law_2007 (by decide) ?_
      obtain ⟨v6, uF0_7, h8, hf⟩ := xb2_of hf
      refine x_calllV (As := [.int a1, .int 0]) (rest := []) (σ' := (upA uA 0 (uP, uC, uD, uJ, ur, ut, ud, ug), (uT0, uT1, uT2, uT3, uT4, uT5, uT6, uT7, uT8), (uG0, uG1, uG2), (uM0, uM1, uM2, uM3, uM4), (uF0_7, uF1, uF2, uF3, uF4, uF5, uF6, uF7, uF8, uF9, uF10, uF11, uF12, uF13, uF14, uF15, uF16, uF17, uF18), uo_3, uv)) hc hw hl.1 (m_X8_entry h8) kL_247 co_245 rfl rfl ⟨rfl, rfl⟩ ⟨Nat.le_of_ble_eq_true rfl, Nat.le_of_ble_eq_true rfl⟩ hz1 (Nat.le_of_ble_eq_true rfl) dL_law_2008 (fun H locs hw => ?_)
      refine lv_lstore (lv' := [(7, .long v6), (6, .int v2), (0, .ref b), (1, .ref (xAd κ 234)), (2, .ref (xAd κ 245)), (3, .ref (xAd κ 254)), (4, .ref (xAd κ 255)), (5, .int (nI i))]) hx hb dL_law_2011 hl (by decide) rfl (fun ls hl => ?_)
      refine lv_aload_n hx hb dL_law_2013 rfl (lv_at hl 4 rfl) ?_
      obtain ⟨v9, h10, hf⟩ := xb1_of hf
      refine x_calliV (As := []) (rest := []) (σ' := (upA uA 0 (uP, uC, uD, uJ, ur, ut, ud, ug), (uT0, uT1, uT2, uT3, uT4, uT5, uT6, uT7, uT8), (uG0, uG1, uG2), (uM0, uM1, uM2, uM3, uM4), (uF0_7, uF1, uF2, uF3, uF4, uF5, uF6, uF7, uF8, uF9, uF10, uF11, uF12, uF13, uF14, uF15, uF16, uF17, uF18), uo_3, uv)) hc hw hl.1 (m_X8_thrown h10) kL_148 co_245 rfl rfl ⟨rfl, rfl⟩ ⟨Nat.le_of_ble_eq_true rfl, Nat.le_of_ble_eq_true rfl⟩ hz1 (Nat.le_of_ble_eq_true rfl) dL_law_2014 (fun H locs hw => ?_)
      refine lv_iload hx hb dL_law_2017 (lv_at hl 1 rfl) ?_
      refine lv_icmp_eq (tgt := 2024) hx hb dL_law_2019 (by decide) (fun c11 => ?_) (fun c11 => ?_)
      · have hf := xif_t c11 hf
        refine lv_iload hx hb dL_law_2024 (lv_at hl 1 rfl) ?_
        refine lv_if_ne (tgt := 2040) hx hb dL_law_2026 (by decide) (fun c12 => ?_) (fun c12 => ?_)
        · have hf := xif_f c12 hf
          refine lv_goto (tgt := 2367) hx hb dL_law_2040 (by decide) ?_
          cases hf
          exact K _ _ _ hw (lv_sub hl [2, 3, 4, 5, 6, 7] rfl)
        · have hf := xif_t c12 hf
          refine lv_aload_n hx hb dL_law_2029 rfl (lv_at hl 5 rfl) ?_
          refine lv_iconst (v := 0) hx hb dL_law_2030 (by decide) ?_
          obtain ⟨k13, hf⟩ := xk_of hf
          refine x_lald (n := 1) (f := uo_3) hc hw co_254 k13 dL_law_2031 ?_
          refine lv_lload hx hb dL_law_2032 (lv_at hl 0 rfl) ?_
          refine x_lcmp_eq (tgt := 2040) hx hb dL_law_2034 dL_law_2035 (by decide) (fun c14 => ?_) (fun c14 => ?_)
          · have hf := xif_t c14 hf
            refine lv_goto (tgt := 2367) hx hb dL_law_2040 (by decide) ?_
            cases hf
            exact K _ _ _ hw (lv_sub hl [2, 3, 4, 5, 6, 7] rfl)
          · have hf := xif_f c14 hf
            refine lv_iconst (v := 0) hx hb dL_law_2038 (by decide) ?_
            cases hf
      · have hf := xif_f c11 hf
        refine lv_iconst (v := 0) hx hb dL_law_2022 (by decide) ?_
        cases hf
    · have hf := xif_f c5 hf
      refine lv_iconst (v := 1) hx hb dL_law_2003 (by decide) ?_
      refine lv_goto (tgt := 2008) hx hb dL_law_2004 (by decide) ?_
      obtain ⟨v15, uF0_16, h17, hf⟩ := xb2_of hf
      refine x_calllV (As := [.int a1, .int 1]) (rest := []) (σ' := (upA uA 0 (uP, uC, uD, uJ, ur, ut, ud, ug), (uT0, uT1, uT2, uT3, uT4, uT5, uT6, uT7, uT8), (uG0, uG1, uG2), (uM0, uM1, uM2, uM3, uM4), (uF0_16, uF1, uF2, uF3, uF4, uF5, uF6, uF7, uF8, uF9, uF10, uF11, uF12, uF13, uF14, uF15, uF16, uF17, uF18), uo_3, uv)) hc hw hl.1 (m_X8_entry h17) kL_247 co_245 rfl rfl ⟨rfl, rfl⟩ ⟨Nat.le_of_ble_eq_true rfl, Nat.le_of_ble_eq_true rfl⟩ hz1 (Nat.le_of_ble_eq_true rfl) dL_law_2008 (fun H locs hw => ?_)
      refine lv_lstore (lv' := [(7, .long v15), (6, .int v2), (0, .ref b), (1, .ref (xAd κ 234)), (2, .ref (xAd κ 245)), (3, .ref (xAd κ 254)), (4, .ref (xAd κ 255)), (5, .int (nI i))]) hx hb dL_law_2011 hl (by decide) rfl (fun ls hl => ?_)
      refine lv_aload_n hx hb dL_law_2013 rfl (lv_at hl 4 rfl) ?_
      obtain ⟨v18, h19, hf⟩ := xb1_of hf
      refine x_calliV (As := []) (rest := []) (σ' := (upA uA 0 (uP, uC, uD, uJ, ur, ut, ud, ug), (uT0, uT1, uT2, uT3, uT4, uT5, uT6, uT7, uT8), (uG0, uG1, uG2), (uM0, uM1, uM2, uM3, uM4), (uF0_16, uF1, uF2, uF3, uF4, uF5, uF6, uF7, uF8, uF9, uF10, uF11, uF12, uF13, uF14, uF15, uF16, uF17, uF18), uo_3, uv)) hc hw hl.1 (m_X8_thrown h19) kL_148 co_245 rfl rfl ⟨rfl, rfl⟩ ⟨Nat.le_of_ble_eq_true rfl, Nat.le_of_ble_eq_true rfl⟩ hz1 (Nat.le_of_ble_eq_true rfl) dL_law_2014 (fun H locs hw => ?_)
      refine lv_iload hx hb dL_law_2017 (lv_at hl 1 rfl) ?_
      refine lv_icmp_eq (tgt := 2024) hx hb dL_law_2019 (by decide) (fun c20 => ?_) (fun c20 => ?_)
      · have hf := xif_t c20 hf
        refine lv_iload hx hb dL_law_2024 (lv_at hl 1 rfl) ?_
        refine lv_if_ne (tgt := 2040) hx hb dL_law_2026 (by decide) (fun c21 => ?_) (fun c21 => ?_)
        · have hf := xif_f c21 hf
          refine lv_goto (tgt := 2367) hx hb dL_law_2040 (by decide) ?_
          cases hf
          exact K _ _ _ hw (lv_sub hl [2, 3, 4, 5, 6, 7] rfl)
        · have hf := xif_t c21 hf
          refine lv_aload_n hx hb dL_law_2029 rfl (lv_at hl 5 rfl) ?_
          refine lv_iconst (v := 0) hx hb dL_law_2030 (by decide) ?_
          obtain ⟨k22, hf⟩ := xk_of hf
          refine x_lald (n := 1) (f := uo_3) hc hw co_254 k22 dL_law_2031 ?_
          refine lv_lload hx hb dL_law_2032 (lv_at hl 0 rfl) ?_
          refine x_lcmp_eq (tgt := 2040) hx hb dL_law_2034 dL_law_2035 (by decide) (fun c23 => ?_) (fun c23 => ?_)
          · have hf := xif_t c23 hf
            refine lv_goto (tgt := 2367) hx hb dL_law_2040 (by decide) ?_
            cases hf
            exact K _ _ _ hw (lv_sub hl [2, 3, 4, 5, 6, 7] rfl)
          · have hf := xif_f c23 hf
            refine lv_iconst (v := 0) hx hb dL_law_2038 (by decide) ?_
            cases hf
      · have hf := xif_f c20 hf
        refine lv_iconst (v := 0) hx hb dL_law_2022 (by decide) ?_
        cases hf
  · have hf := xif_f c1 hf
    refine lv_iconst (v := 1) hx hb dL_law_1976 (by decide) ?_
    refine lv_goto (tgt := 1981) hx hb dL_law_1977 (by decide) ?_
    refine lv_aload_n hx hb dL_law_1981 rfl (lv_at hl 3 rfl) ?_
    obtain ⟨v24, uo_25, h26, hf⟩ := xb2_of hf
    refine x_hcalliS (As := [.ref (xAd κ 234), .int a1, .int 1, .ref (xAd κ 254)]) (rest := []) (σ' := (upA uA 0 (uP, uC, uD, uJ, ur, ut, ud, ug), (uT0, uT1, uT2, uT3, uT4, uT5, uT6, uT7, uT8), (uG0, uG1, uG2), (uM0, uM1, uM2, uM3, uM4), (uF0, uF1, uF2, uF3, uF4, uF5, uF6, uF7, uF8, uF9, uF10, uF11, uF12, uF13, uF14, uF15, uF16, uF17, uF18), uo_25, uv)) hc hw hl.1 hlt (m_L_entry h26) kL_244 rfl rfl ⟨rfl, rfl⟩ ⟨Nat.le_of_ble_eq_true rfl, Nat.le_of_ble_eq_true rfl⟩ hz1 (Nat.le_of_ble_eq_true rfl) dL_law_1982 (fun H locs hw => ?_)
    refine lv_istore (lv' := [(6, .int v24), (0, .ref b), (1, .ref (xAd κ 234)), (2, .ref (xAd κ 245)), (3, .ref (xAd κ 254)), (4, .ref (xAd κ 255)), (5, .int (nI i))]) hx hb dL_law_1985 hl (by decide) rfl (fun ls hl => ?_)
    refine lv_aload_n hx hb dL_law_1987 rfl (lv_at hl 3 rfl) ?_
    refine lv_aload_n hx hb dL_law_1988 rfl (lv_at hl 1 rfl) ?_
    refine lv_iload hx hb dL_law_1989 (lv_at hl 6 rfl) ?_
    refine lv_iconst (v := 1) hx hb dL_law_1991 (by decide) ?_
    refine lv_iadd hx hb dL_law_1992 ?_
    refine va_sld hx hb hX hbl hbA hw.2 h1 dL_law_1993 ?_
    rw [e1]
    refine lv_aload_n hx hb dL_law_1994 rfl (lv_at hl 1 rfl) ?_
    refine lv_iload hx hb dL_law_1995 (lv_at hl 6 rfl) ?_
    refine lv_iconst (v := 2) hx hb dL_law_1997 (by decide) ?_
    refine lv_iadd hx hb dL_law_1998 ?_
    refine va_sld hx hb hX hbl hbA hw.2 h2 dL_law_1999 ?_
    rw [e2]
    refine lv_if_eq (tgt := 2007) hx hb dL_law_2000 (by decide) (fun c27 => ?_) (fun c27 => ?_)
    · have hf := xif_t c27 hf
      refine lv_iconst (v := 0) hx hb dL_law_2007 (by decide) ?_
      obtain ⟨v28, uF0_29, h30, hf⟩ := xb2_of hf
      refine x_calllV (As := [.int a1, .int 0]) (rest := []) (σ' := (upA uA 0 (uP, uC, uD, uJ, ur, ut, ud, ug), (uT0, uT1, uT2, uT3, uT4, uT5, uT6, uT7, uT8), (uG0, uG1, uG2), (uM0, uM1, uM2, uM3, uM4), (uF0_29, uF1, uF2, uF3, uF4, uF5, uF6, uF7, uF8, uF9, uF10, uF11, uF12, uF13, uF14, uF15, uF16, uF17, uF18), uo_25, uv)) hc hw hl.1 (m_X8_entry h30) kL_247 co_245 rfl rfl ⟨rfl, rfl⟩ ⟨Nat.le_of_ble_eq_true rfl, Nat.le_of_ble_eq_true rfl⟩ hz1 (Nat.le_of_ble_eq_true rfl) dL_law_2008 (fun H locs hw => ?_)
      refine lv_lstore (lv' := [(7, .long v28), (6, .int v24), (0, .ref b), (1, .ref (xAd κ 234)), (2, .ref (xAd κ 245)), (3, .ref (xAd κ 254)), (4, .ref (xAd κ 255)), (5, .int (nI i))]) hx hb dL_law_2011 hl (by decide) rfl (fun ls hl => ?_)
      refine lv_aload_n hx hb dL_law_2013 rfl (lv_at hl 4 rfl) ?_
      obtain ⟨v31, h32, hf⟩ := xb1_of hf
      refine x_calliV (As := []) (rest := []) (σ' := (upA uA 0 (uP, uC, uD, uJ, ur, ut, ud, ug), (uT0, uT1, uT2, uT3, uT4, uT5, uT6, uT7, uT8), (uG0, uG1, uG2), (uM0, uM1, uM2, uM3, uM4), (uF0_29, uF1, uF2, uF3, uF4, uF5, uF6, uF7, uF8, uF9, uF10, uF11, uF12, uF13, uF14, uF15, uF16, uF17, uF18), uo_25, uv)) hc hw hl.1 (m_X8_thrown h32) kL_148 co_245 rfl rfl ⟨rfl, rfl⟩ ⟨Nat.le_of_ble_eq_true rfl, Nat.le_of_ble_eq_true rfl⟩ hz1 (Nat.le_of_ble_eq_true rfl) dL_law_2014 (fun H locs hw => ?_)
      refine lv_iload hx hb dL_law_2017 (lv_at hl 1 rfl) ?_
      refine lv_icmp_eq (tgt := 2024) hx hb dL_law_2019 (by decide) (fun c33 => ?_) (fun c33 => ?_)
      · have hf := xif_t c33 hf
        refine lv_iload hx hb dL_law_2024 (lv_at hl 1 rfl) ?_
        refine lv_if_ne (tgt := 2040) hx hb dL_law_2026 (by decide) (fun c34 => ?_) (fun c34 => ?_)
        · have hf := xif_f c34 hf
          refine lv_goto (tgt := 2367) hx hb dL_law_2040 (by decide) ?_
          cases hf
          exact K _ _ _ hw (lv_sub hl [2, 3, 4, 5, 6, 7] rfl)
        · have hf := xif_t c34 hf
          refine lv_aload_n hx hb dL_law_2029 rfl (lv_at hl 5 rfl) ?_
          refine lv_iconst (v := 0) hx hb dL_law_2030 (by decide) ?_
          obtain ⟨k35, hf⟩ := xk_of hf
          refine x_lald (n := 1) (f := uo_25) hc hw co_254 k35 dL_law_2031 ?_
          refine lv_lload hx hb dL_law_2032 (lv_at hl 0 rfl) ?_
          refine x_lcmp_eq (tgt := 2040) hx hb dL_law_2034 dL_law_2035 (by decide) (fun c36 => ?_) (fun c36 => ?_)
          · have hf := xif_t c36 hf
            refine lv_goto (tgt := 2367) hx hb dL_law_2040 (by decide) ?_
            cases hf
            exact K _ _ _ hw (lv_sub hl [2, 3, 4, 5, 6, 7] rfl)
          · have hf := xif_f c36 hf
            refine lv_iconst (v := 0) hx hb dL_law_2038 (by decide) ?_
            cases hf
      · have hf := xif_f c33 hf
        refine lv_iconst (v := 0) hx hb dL_law_2022 (by decide) ?_
        cases hf
    · have hf := xif_f c27 hf
      refine lv_iconst (v := 1) hx hb dL_law_2003 (by decide) ?_
      refine lv_goto (tgt := 2008) hx hb dL_law_2004 (by decide) ?_
      obtain ⟨v37, uF0_38, h39, hf⟩ := xb2_of hf
      refine x_calllV (As := [.int a1, .int 1]) (rest := []) (σ' := (upA uA 0 (uP, uC, uD, uJ, ur, ut, ud, ug), (uT0, uT1, uT2, uT3, uT4, uT5, uT6, uT7, uT8), (uG0, uG1, uG2), (uM0, uM1, uM2, uM3, uM4), (uF0_38, uF1, uF2, uF3, uF4, uF5, uF6, uF7, uF8, uF9, uF10, uF11, uF12, uF13, uF14, uF15, uF16, uF17, uF18), uo_25, uv)) hc hw hl.1 (m_X8_entry h39) kL_247 co_245 rfl rfl ⟨rfl, rfl⟩ ⟨Nat.le_of_ble_eq_true rfl, Nat.le_of_ble_eq_true rfl⟩ hz1 (Nat.le_of_ble_eq_true rfl) dL_law_2008 (fun H locs hw => ?_)
      refine lv_lstore (lv' := [(7, .long v37), (6, .int v24), (0, .ref b), (1, .ref (xAd κ 234)), (2, .ref (xAd κ 245)), (3, .ref (xAd κ 254)), (4, .ref (xAd κ 255)), (5, .int (nI i))]) hx hb dL_law_2011 hl (by decide) rfl (fun ls hl => ?_)
      refine lv_aload_n hx hb dL_law_2013 rfl (lv_at hl 4 rfl) ?_
      obtain ⟨v40, h41, hf⟩ := xb1_of hf
      refine x_calliV (As := []) (rest := []) (σ' := (upA uA 0 (uP, uC, uD, uJ, ur, ut, ud, ug), (uT0, uT1, uT2, uT3, uT4, uT5, uT6, uT7, uT8), (uG0, uG1, uG2), (uM0, uM1, uM2, uM3, uM4), (uF0_38, uF1, uF2, uF3, uF4, uF5, uF6, uF7, uF8, uF9, uF10, uF11, uF12, uF13, uF14, uF15, uF16, uF17, uF18), uo_25, uv)) hc hw hl.1 (m_X8_thrown h41) kL_148 co_245 rfl rfl ⟨rfl, rfl⟩ ⟨Nat.le_of_ble_eq_true rfl, Nat.le_of_ble_eq_true rfl⟩ hz1 (Nat.le_of_ble_eq_true rfl) dL_law_2014 (fun H locs hw => ?_)
      refine lv_iload hx hb dL_law_2017 (lv_at hl 1 rfl) ?_
      refine lv_icmp_eq (tgt := 2024) hx hb dL_law_2019 (by decide) (fun c42 => ?_) (fun c42 => ?_)
      · have hf := xif_t c42 hf
        refine lv_iload hx hb dL_law_2024 (lv_at hl 1 rfl) ?_
        refine lv_if_ne (tgt := 2040) hx hb dL_law_2026 (by decide) (fun c43 => ?_) (fun c43 => ?_)
        · have hf := xif_f c43 hf
          refine lv_goto (tgt := 2367) hx hb dL_law_2040 (by decide) ?_
          cases hf
          exact K _ _ _ hw (lv_sub hl [2, 3, 4, 5, 6, 7] rfl)
        · have hf := xif_t c43 hf
          refine lv_aload_n hx hb dL_law_2029 rfl (lv_at hl 5 rfl) ?_
          refine lv_iconst (v := 0) hx hb dL_law_2030 (by decide) ?_
          obtain ⟨k44, hf⟩ := xk_of hf
          refine x_lald (n := 1) (f := uo_25) hc hw co_254 k44 dL_law_2031 ?_
          refine lv_lload hx hb dL_law_2032 (lv_at hl 0 rfl) ?_
          refine x_lcmp_eq (tgt := 2040) hx hb dL_law_2034 dL_law_2035 (by decide) (fun c45 => ?_) (fun c45 => ?_)
          · have hf := xif_t c45 hf
            refine lv_goto (tgt := 2367) hx hb dL_law_2040 (by decide) ?_
            cases hf
            exact K _ _ _ hw (lv_sub hl [2, 3, 4, 5, 6, 7] rfl)
          · have hf := xif_f c45 hf
            refine lv_iconst (v := 0) hx hb dL_law_2038 (by decide) ?_
            cases hf
      · have hf := xif_f c42 hf
        refine lv_iconst (v := 0) hx hb dL_law_2022 (by decide) ?_
        cases hf
set_option maxHeartbeats 4000000 in
set_option maxRecDepth 100000 in
theorem q_32 {l : Launch} {κ : xKt} {fu : Nat} {a1 a2 a3 : Int32} {uA : Nat → sAcc} {uP : sPar} {uC : sCla} {uD : sDeb} {uJ : sJou} {ur : xF32} {ut : xF32} {ud : Int32} {ug : Int32} {uT0 : Int32} {uT1 : xF32} {uT2 : Int32} {uT3 : Int32} {uT4 : Int32} {uT5 : xF32} {uT6 : xF32} {uT7 : xF32} {uT8 : xF32} {uG0 : Int32} {uG1 : xF32} {uG2 : xF32} {uM0 : Int32} {uM1 : Int32} {uM2 : Int32} {uM3 : Int32} {uM4 : Int32} {uF0 : Int32} {uF1 : xF64} {uF2 : xF64} {uF3 : xF64} {uF4 : xF64} {uF5 : Int32} {uF6 : Int32} {uF7 : Int32} {uF8 : xF32} {uF9 : Int32} {uF10 : Int32} {uF11 : Int64} {uF12 : xF32} {uF13 : Int32} {uF14 : Int32} {uF15 : Int32} {uF16 : xF32} {uF17 : xF32} {uF18 : Int32} {uo : xF64} {uv : Nat → UInt64} {yF0 : Int32} {yv : Nat → UInt64} {A : Nat → Prop} {p : Program} {e : Env} {s : State} {m : MethodId} {args : Array Value} {below : List Frame} {meth : Method} {c : Code} {Q : State → Prop} {b L i kc ks : Nat} {xs : Nat → Int32}
    (hc : xC κ A p s m args meth c cL_law RL 9 (some .boolean)) (hlt : l.stackTraces = false) (hX : va_X b L xs s s.heap) (hbl : b < s.heap.size) (hbA : ¬ A b) (h1 : vp_in ((nI i) + 1) L) (h2 : vp_in ((nI i) + 2) L) (h3 : vp_in ((nI i) + 3) L) (e1 : xs ((nI i) + 1).toNatClampNeg = a1) (e2 : xs ((nI i) + 2).toNatClampNeg = a2) (e3 : xs ((nI i) + 3).toNatClampNeg = a3) (hz0 : kc ≤ room_1.cells ∧ ks ≤ room_1.slots) (hz1 : kc + 1 ≤ room_1.cells ∧ ks + 6 ≤ room_1.slots)
    (hf : f_C_32 fu a1 uP uC uF0 uF1 uv = some (yF0, yv))
    (K : ∀ (H : Heap) (locs : List Loc) (ls : Array Slot), xW κ A s (upA uA 0 (uP, uC, uD, uJ, ur, ut, ud, ug), (uT0, uT1, uT2, uT3, uT4, uT5, uT6, uT7, uT8), (uG0, uG1, uG2), (uM0, uM1, uM2, uM3, uM4), (yF0, uF1, uF2, uF3, uF4, uF5, uF6, uF7, uF8, uF9, uF10, uF11, uF12, uF13, uF14, uF15, uF16, uF17, uF18), uo, yv) H locs → lv_has ls 9 [(0, .ref b), (1, .ref (xAd κ 234)), (2, .ref (xAd κ 245)), (3, .ref (xAd κ 254)), (4, .ref (xAd κ 255)), (5, .int (nI i))] → W p l e room_1 s m args below meth c H locs (kc + 1) (ks + 6) Q (F0 m 2367 ls [])) :
    ∀ (H : Heap) (locs : List Loc) (ls : Array Slot), xW κ A s (upA uA 0 (uP, uC, uD, uJ, ur, ut, ud, ug), (uT0, uT1, uT2, uT3, uT4, uT5, uT6, uT7, uT8), (uG0, uG1, uG2), (uM0, uM1, uM2, uM3, uM4), (uF0, uF1, uF2, uF3, uF4, uF5, uF6, uF7, uF8, uF9, uF10, uF11, uF12, uF13, uF14, uF15, uF16, uF17, uF18), uo, uv) H locs → lv_has ls 9 [(0, .ref b), (1, .ref (xAd κ 234)), (2, .ref (xAd κ 245)), (3, .ref (xAd κ 254)), (4, .ref (xAd κ 255)), (5, .int (nI i))] → W p l e room_1 s m args below meth c H locs kc ks Q (F0 m 2043 ls []) := by
  have hx := hc.1.1
  have hb := hc.1.2.1
  intro H locs ls hw hl
  unfold f_C_32 at hf
  refine lv_aload_n hx hb dL_law_2043 rfl (lv_at hl 1 rfl) ?_
  refine lv_aload_n hx hb dL_law_2044 rfl (lv_at hl 0 rfl) ?_
  refine lv_iload hx hb dL_law_2045 (lv_at hl 5 rfl) ?_
  refine lv_iconst (v := 1) hx hb dL_law_2047 (by decide) ?_
  refine lv_iadd hx hb dL_law_2048 ?_
  refine va_sld hx hb hX hbl hbA hw.2 h1 dL_law_2049 ?_
  rw [e1]
  refine lv_aload hx hb dL_law_2050 (lv_at hl 4 rfl) ?_
  obtain ⟨v1, uv_2, h3, hf⟩ := xb2_of hf
  refine x_hcalliS (As := [.ref (xAd κ 234), .int a1, .ref (xAd κ 255)]) (rest := []) (σ' := (upA uA 0 (uP, uC, uD, uJ, ur, ut, ud, ug), (uT0, uT1, uT2, uT3, uT4, uT5, uT6, uT7, uT8), (uG0, uG1, uG2), (uM0, uM1, uM2, uM3, uM4), (uF0, uF1, uF2, uF3, uF4, uF5, uF6, uF7, uF8, uF9, uF10, uF11, uF12, uF13, uF14, uF15, uF16, uF17, uF18), uo, uv_2)) hc hw hl.1 hlt (m_L_quota h3) kL_248 rfl rfl ⟨rfl, rfl⟩ ⟨Nat.le_of_ble_eq_true rfl, Nat.le_of_ble_eq_true rfl⟩ hz1 (Nat.le_of_ble_eq_true rfl) dL_law_2052 (fun H locs hw => ?_)
  refine lv_istore (lv' := [(6, .int v1), (0, .ref b), (1, .ref (xAd κ 234)), (2, .ref (xAd κ 245)), (3, .ref (xAd κ 254)), (4, .ref (xAd κ 255)), (5, .int (nI i))]) hx hb dL_law_2055 hl (by decide) rfl (fun ls hl => ?_)
  refine lv_aload_n hx hb dL_law_2057 rfl (lv_at hl 3 rfl) ?_
  refine lv_aload_n hx hb dL_law_2058 rfl (lv_at hl 1 rfl) ?_
  refine lv_iload hx hb dL_law_2059 (lv_at hl 6 rfl) ?_
  refine lv_iconst (v := 1) hx hb dL_law_2061 (by decide) ?_
  refine lv_iadd hx hb dL_law_2062 ?_
  refine va_sld hx hb hX hbl hbA hw.2 h1 dL_law_2063 ?_
  rw [e1]
  obtain ⟨v4, uF0_5, h6, hf⟩ := xb2_of hf
  refine x_calldV (As := [.int a1]) (rest := []) (σ' := (upA uA 0 (uP, uC, uD, uJ, ur, ut, ud, ug), (uT0, uT1, uT2, uT3, uT4, uT5, uT6, uT7, uT8), (uG0, uG1, uG2), (uM0, uM1, uM2, uM3, uM4), (uF0_5, uF1, uF2, uF3, uF4, uF5, uF6, uF7, uF8, uF9, uF10, uF11, uF12, uF13, uF14, uF15, uF16, uF17, uF18), uo, uv_2)) hc hw hl.1 (m_X8_quota h6) kL_251 co_245 rfl rfl ⟨rfl, rfl⟩ ⟨Nat.le_of_ble_eq_true rfl, Nat.le_of_ble_eq_true rfl⟩ hz1 (Nat.le_of_ble_eq_true rfl) dL_law_2064 (fun H locs hw => ?_)
  refine lv_dstore (lv' := [(7, .double v4), (6, .int v1), (0, .ref b), (1, .ref (xAd κ 234)), (2, .ref (xAd κ 245)), (3, .ref (xAd κ 254)), (4, .ref (xAd κ 255)), (5, .int (nI i))]) hx hb dL_law_2067 hl (by decide) rfl (fun ls hl => ?_)
  refine lv_aload_n hx hb dL_law_2069 rfl (lv_at hl 4 rfl) ?_
  obtain ⟨v7, h8, hf⟩ := xb1_of hf
  refine x_calliV (As := []) (rest := []) (σ' := (upA uA 0 (uP, uC, uD, uJ, ur, ut, ud, ug), (uT0, uT1, uT2, uT3, uT4, uT5, uT6, uT7, uT8), (uG0, uG1, uG2), (uM0, uM1, uM2, uM3, uM4), (uF0_5, uF1, uF2, uF3, uF4, uF5, uF6, uF7, uF8, uF9, uF10, uF11, uF12, uF13, uF14, uF15, uF16, uF17, uF18), uo, uv_2)) hc hw hl.1 (m_X8_thrown h8) kL_148 co_245 rfl rfl ⟨rfl, rfl⟩ ⟨Nat.le_of_ble_eq_true rfl, Nat.le_of_ble_eq_true rfl⟩ hz1 (Nat.le_of_ble_eq_true rfl) dL_law_2070 (fun H locs hw => ?_)
  refine lv_iload hx hb dL_law_2073 (lv_at hl 1 rfl) ?_
  refine lv_icmp_eq (tgt := 2080) hx hb dL_law_2075 (by decide) (fun c9 => ?_) (fun c9 => ?_)
  · have hf := xif_t c9 hf
    refine lv_iload hx hb dL_law_2080 (lv_at hl 1 rfl) ?_
    refine lv_if_ne (tgt := 2117) hx hb dL_law_2082 (by decide) (fun c10 => ?_) (fun c10 => ?_)
    · have hf := xif_f c10 hf
      refine lv_goto (tgt := 2367) hx hb dL_law_2117 (by decide) ?_
      cases hf
      exact K _ _ _ hw (lv_sub hl [2, 3, 4, 5, 6, 7] rfl)
    · have hf := xif_t c10 hf
      refine lv_aload hx hb dL_law_2085 (lv_at hl 6 rfl) ?_
      refine lv_iconst (v := 0) hx hb dL_law_2087 (by decide) ?_
      obtain ⟨k11, hf⟩ := xk_of hf
      refine x_dald (n := 1) (f := uv_2) hc hw co_255 k11 dL_law_2088 ?_
      refine lv_dload hx hb dL_law_2089 (lv_at hl 0 rfl) ?_
      refine lv_dcmp hx hb dL_law_2091 ?_
      refine lv_if_eq (tgt := 2117) hx hb dL_law_2092 (by decide) (fun c12 => ?_) (fun c12 => ?_)
      · have hf := xif_t c12 hf
        refine lv_goto (tgt := 2367) hx hb dL_law_2117 (by decide) ?_
        cases hf
        exact K _ _ _ hw (lv_sub hl [2, 3, 4, 5, 6, 7] rfl)
      · have hf := xif_f c12 hf
        refine lv_aload hx hb dL_law_2095 (lv_at hl 6 rfl) ?_
        refine lv_iconst (v := 0) hx hb dL_law_2097 (by decide) ?_
        obtain ⟨k13, hf⟩ := xk_of hf
        refine x_dald (n := 1) (f := uv_2) hc hw co_255 k13 dL_law_2098 ?_
        refine lv_aload hx hb dL_law_2099 (lv_at hl 6 rfl) ?_
        refine lv_iconst (v := 0) hx hb dL_law_2101 (by decide) ?_
        obtain ⟨k14, hf⟩ := xk_of hf
        refine x_dald (n := 1) (f := uv_2) hc hw co_255 k14 dL_law_2102 ?_
        refine lv_dcmp hx hb dL_law_2103 ?_
        refine lv_if_eq (tgt := 2115) hx hb dL_law_2104 (by decide) (fun c15 => ?_) (fun c15 => ?_)
        · have hf := xif_t c15 hf
          refine lv_iconst (v := 0) hx hb dL_law_2115 (by decide) ?_
          cases hf
        · have hf := xif_f c15 hf
          refine lv_dload hx hb dL_law_2107 (lv_at hl 0 rfl) ?_
          refine lv_dload hx hb dL_law_2109 (lv_at hl 0 rfl) ?_
          refine lv_dcmp hx hb dL_law_2111 ?_
          refine lv_if_ne (tgt := 2117) hx hb dL_law_2112 (by decide) (fun c16 => ?_) (fun c16 => ?_)
          · have hf := xif_f c16 hf
            refine lv_goto (tgt := 2367) hx hb dL_law_2117 (by decide) ?_
            cases hf
            exact K _ _ _ hw (lv_sub hl [2, 3, 4, 5, 6, 7] rfl)
          · have hf := xif_t c16 hf
            refine lv_iconst (v := 0) hx hb dL_law_2115 (by decide) ?_
            cases hf
  · have hf := xif_f c9 hf
    refine lv_iconst (v := 0) hx hb dL_law_2078 (by decide) ?_
    cases hf
set_option maxHeartbeats 4000000 in
set_option maxRecDepth 100000 in
theorem q_33 {l : Launch} {κ : xKt} {fu : Nat} {a1 a2 a3 : Int32} {uA : Nat → sAcc} {uP : sPar} {uC : sCla} {uD : sDeb} {uJ : sJou} {ur : xF32} {ut : xF32} {ud : Int32} {ug : Int32} {uT0 : Int32} {uT1 : xF32} {uT2 : Int32} {uT3 : Int32} {uT4 : Int32} {uT5 : xF32} {uT6 : xF32} {uT7 : xF32} {uT8 : xF32} {uG0 : Int32} {uG1 : xF32} {uG2 : xF32} {uM0 : Int32} {uM1 : Int32} {uM2 : Int32} {uM3 : Int32} {uM4 : Int32} {uF0 : Int32} {uF1 : xF64} {uF2 : xF64} {uF3 : xF64} {uF4 : xF64} {uF5 : Int32} {uF6 : Int32} {uF7 : Int32} {uF8 : xF32} {uF9 : Int32} {uF10 : Int32} {uF11 : Int64} {uF12 : xF32} {uF13 : Int32} {uF14 : Int32} {uF15 : Int32} {uF16 : xF32} {uF17 : xF32} {uF18 : Int32} {uo : xF64} {uv : Nat → UInt64} {yT0 : Int32} {yT1 : xF32} {yF0 : Int32} {yF8 : xF32} {yF9 : Int32} {yo : xF64} {A : Nat → Prop} {p : Program} {e : Env} {s : State} {m : MethodId} {args : Array Value} {below : List Frame} {meth : Method} {c : Code} {Q : State → Prop} {b L i kc ks : Nat} {xs : Nat → Int32}
    (hc : xC κ A p s m args meth c cL_law RL 9 (some .boolean)) (hlt : l.stackTraces = false) (hX : va_X b L xs s s.heap) (hbl : b < s.heap.size) (hbA : ¬ A b) (h1 : vp_in ((nI i) + 1) L) (h2 : vp_in ((nI i) + 2) L) (h3 : vp_in ((nI i) + 3) L) (e1 : xs ((nI i) + 1).toNatClampNeg = a1) (e2 : xs ((nI i) + 2).toNatClampNeg = a2) (e3 : xs ((nI i) + 3).toNatClampNeg = a3) (hz0 : kc ≤ room_1.cells ∧ ks ≤ room_1.slots) (hz1 : kc + 1 ≤ room_1.cells ∧ ks + 6 ≤ room_1.slots)
    (hf : f_C_33 fu a1 uT0 uT1 uF0 uF8 uF9 uo = some (yT0, yT1, yF0, yF8, yF9, yo))
    (K : ∀ (H : Heap) (locs : List Loc) (ls : Array Slot), xW κ A s (upA uA 0 (uP, uC, uD, uJ, ur, ut, ud, ug), (yT0, yT1, uT2, uT3, uT4, uT5, uT6, uT7, uT8), (uG0, uG1, uG2), (uM0, uM1, uM2, uM3, uM4), (yF0, uF1, uF2, uF3, uF4, uF5, uF6, uF7, yF8, yF9, uF10, uF11, uF12, uF13, uF14, uF15, uF16, uF17, uF18), yo, uv) H locs → lv_has ls 9 [(0, .ref b), (1, .ref (xAd κ 234)), (2, .ref (xAd κ 245)), (3, .ref (xAd κ 254)), (4, .ref (xAd κ 255)), (5, .int (nI i))] → W p l e room_1 s m args below meth c H locs (kc + 1) (ks + 6) Q (F0 m 2367 ls [])) :
    ∀ (H : Heap) (locs : List Loc) (ls : Array Slot), xW κ A s (upA uA 0 (uP, uC, uD, uJ, ur, ut, ud, ug), (uT0, uT1, uT2, uT3, uT4, uT5, uT6, uT7, uT8), (uG0, uG1, uG2), (uM0, uM1, uM2, uM3, uM4), (uF0, uF1, uF2, uF3, uF4, uF5, uF6, uF7, uF8, uF9, uF10, uF11, uF12, uF13, uF14, uF15, uF16, uF17, uF18), uo, uv) H locs → lv_has ls 9 [(0, .ref b), (1, .ref (xAd κ 234)), (2, .ref (xAd κ 245)), (3, .ref (xAd κ 254)), (4, .ref (xAd κ 255)), (5, .int (nI i))] → W p l e room_1 s m args below meth c H locs kc ks Q (F0 m 2120 ls []) := by
  have hx := hc.1.1
  have hb := hc.1.2.1
  intro H locs ls hw hl
  unfold f_C_33 at hf
  refine lv_aload_n hx hb dL_law_2120 rfl (lv_at hl 1 rfl) ?_
  refine lv_aload_n hx hb dL_law_2121 rfl (lv_at hl 0 rfl) ?_
  refine lv_iload hx hb dL_law_2122 (lv_at hl 5 rfl) ?_
  refine lv_iconst (v := 1) hx hb dL_law_2124 (by decide) ?_
  refine lv_iadd hx hb dL_law_2125 ?_
  refine va_sld hx hb hX hbl hbA hw.2 h1 dL_law_2126 ?_
  rw [e1]
  refine lv_i2c (v := (a1.toUInt32 % 65536).toInt32) hx hb dL_law_2127 rfl ?_
  refine lv_aload_n hx hb dL_law_2128 rfl (lv_at hl 3 rfl) ?_
  obtain ⟨v1, uT0_2, uT1_3, uo_4, h5, hf⟩ := xb4_of hf
  refine x_hcalliS (As := [.ref (xAd κ 234), .int (a1.toUInt32 % 65536).toInt32, .ref (xAd κ 254)]) (rest := []) (σ' := (upA uA 0 (uP, uC, uD, uJ, ur, ut, ud, ug), (uT0_2, uT1_3, uT2, uT3, uT4, uT5, uT6, uT7, uT8), (uG0, uG1, uG2), (uM0, uM1, uM2, uM3, uM4), (uF0, uF1, uF2, uF3, uF4, uF5, uF6, uF7, uF8, uF9, uF10, uF11, uF12, uF13, uF14, uF15, uF16, uF17, uF18), uo_4, uv)) hc hw hl.1 hlt (m_L_append h5) kL_252 rfl rfl ⟨rfl, rfl⟩ ⟨Nat.le_of_ble_eq_true rfl, Nat.le_of_ble_eq_true rfl⟩ hz1 (Nat.le_of_ble_eq_true rfl) dL_law_2129 (fun H locs hw => ?_)
  refine lv_istore (lv' := [(6, .int v1), (0, .ref b), (1, .ref (xAd κ 234)), (2, .ref (xAd κ 245)), (3, .ref (xAd κ 254)), (4, .ref (xAd κ 255)), (5, .int (nI i))]) hx hb dL_law_2132 hl (by decide) rfl (fun ls hl => ?_)
  refine lv_aload_n hx hb dL_law_2134 rfl (lv_at hl 3 rfl) ?_
  refine lv_aload_n hx hb dL_law_2135 rfl (lv_at hl 1 rfl) ?_
  refine lv_iload hx hb dL_law_2136 (lv_at hl 6 rfl) ?_
  refine lv_iconst (v := 1) hx hb dL_law_2138 (by decide) ?_
  refine lv_iadd hx hb dL_law_2139 ?_
  refine va_sld hx hb hX hbl hbA hw.2 h1 dL_law_2140 ?_
  rw [e1]
  refine lv_i2c (v := (a1.toUInt32 % 65536).toInt32) hx hb dL_law_2141 rfl ?_
  obtain ⟨v6, uF0_7, uF8_8, uF9_9, h10, hf⟩ := xb4_of hf
  refine x_calliV (As := [.int (a1.toUInt32 % 65536).toInt32]) (rest := []) (σ' := (upA uA 0 (uP, uC, uD, uJ, ur, ut, ud, ug), (uT0_2, uT1_3, uT2, uT3, uT4, uT5, uT6, uT7, uT8), (uG0, uG1, uG2), (uM0, uM1, uM2, uM3, uM4), (uF0_7, uF1, uF2, uF3, uF4, uF5, uF6, uF7, uF8_8, uF9_9, uF10, uF11, uF12, uF13, uF14, uF15, uF16, uF17, uF18), uo_4, uv)) hc hw hl.1 (m_X8_append h10) kL_255 co_245 rfl rfl ⟨rfl, rfl⟩ ⟨Nat.le_of_ble_eq_true rfl, Nat.le_of_ble_eq_true rfl⟩ hz1 (Nat.le_of_ble_eq_true rfl) dL_law_2142 (fun H locs hw => ?_)
  refine lv_istore (lv' := [(7, .int v6), (6, .int v1), (0, .ref b), (1, .ref (xAd κ 234)), (2, .ref (xAd κ 245)), (3, .ref (xAd κ 254)), (4, .ref (xAd κ 255)), (5, .int (nI i))]) hx hb dL_law_2145 hl (by decide) rfl (fun ls hl => ?_)
  refine lv_aload_n hx hb dL_law_2147 rfl (lv_at hl 4 rfl) ?_
  obtain ⟨v11, h12, hf⟩ := xb1_of hf
  refine x_calliV (As := []) (rest := []) (σ' := (upA uA 0 (uP, uC, uD, uJ, ur, ut, ud, ug), (uT0_2, uT1_3, uT2, uT3, uT4, uT5, uT6, uT7, uT8), (uG0, uG1, uG2), (uM0, uM1, uM2, uM3, uM4), (uF0_7, uF1, uF2, uF3, uF4, uF5, uF6, uF7, uF8_8, uF9_9, uF10, uF11, uF12, uF13, uF14, uF15, uF16, uF17, uF18), uo_4, uv)) hc hw hl.1 (m_X8_thrown h12) kL_148 co_245 rfl rfl ⟨rfl, rfl⟩ ⟨Nat.le_of_ble_eq_true rfl, Nat.le_of_ble_eq_true rfl⟩ hz1 (Nat.le_of_ble_eq_true rfl) dL_law_2148 (fun H locs hw => ?_)
  refine lv_iload hx hb dL_law_2151 (lv_at hl 1 rfl) ?_
  refine lv_icmp_eq (tgt := 2158) hx hb dL_law_2153 (by decide) (fun c13 => ?_) (fun c13 => ?_)
  · have hf := xif_t c13 hf
    refine lv_iload hx hb dL_law_2158 (lv_at hl 1 rfl) ?_
    refine lv_if_ne (tgt := 2175) hx hb dL_law_2160 (by decide) (fun c14 => ?_) (fun c14 => ?_)
    · have hf := xif_f c14 hf
      refine lv_goto (tgt := 2367) hx hb dL_law_2175 (by decide) ?_
      cases hf
      exact K _ _ _ hw (lv_sub hl [2, 3, 4, 5, 6, 7] rfl)
    · have hf := xif_t c14 hf
      refine lv_aload_n hx hb dL_law_2163 rfl (lv_at hl 5 rfl) ?_
      refine lv_iconst (v := 0) hx hb dL_law_2164 (by decide) ?_
      obtain ⟨k15, hf⟩ := xk_of hf
      refine x_lald (n := 1) (f := uo_4) hc hw co_254 k15 dL_law_2165 ?_
      refine lv_iload hx hb dL_law_2166 (lv_at hl 0 rfl) ?_
      refine lv_i2l (v := v6.toInt64) hx hb dL_law_2168 rfl ?_
      refine x_lcmp_eq (tgt := 2175) hx hb dL_law_2169 dL_law_2170 (by decide) (fun c16 => ?_) (fun c16 => ?_)
      · have hf := xif_t c16 hf
        refine lv_goto (tgt := 2367) hx hb dL_law_2175 (by decide) ?_
        cases hf
        exact K _ _ _ hw (lv_sub hl [2, 3, 4, 5, 6, 7] rfl)
      · have hf := xif_f c16 hf
        refine lv_iconst (v := 0) hx hb dL_law_2173 (by decide) ?_
        cases hf
  · have hf := xif_f c13 hf
    refine lv_iconst (v := 0) hx hb dL_law_2156 (by decide) ?_
    cases hf
set_option maxHeartbeats 4000000 in
set_option maxRecDepth 100000 in
theorem q_34 {l : Launch} {κ : xKt} {fu : Nat} {a1 a2 a3 : Int32} {uA : Nat → sAcc} {uP : sPar} {uC : sCla} {uD : sDeb} {uJ : sJou} {ur : xF32} {ut : xF32} {ud : Int32} {ug : Int32} {uT0 : Int32} {uT1 : xF32} {uT2 : Int32} {uT3 : Int32} {uT4 : Int32} {uT5 : xF32} {uT6 : xF32} {uT7 : xF32} {uT8 : xF32} {uG0 : Int32} {uG1 : xF32} {uG2 : xF32} {uM0 : Int32} {uM1 : Int32} {uM2 : Int32} {uM3 : Int32} {uM4 : Int32} {uF0 : Int32} {uF1 : xF64} {uF2 : xF64} {uF3 : xF64} {uF4 : xF64} {uF5 : Int32} {uF6 : Int32} {uF7 : Int32} {uF8 : xF32} {uF9 : Int32} {uF10 : Int32} {uF11 : Int64} {uF12 : xF32} {uF13 : Int32} {uF14 : Int32} {uF15 : Int32} {uF16 : xF32} {uF17 : xF32} {uF18 : Int32} {uo : xF64} {uv : Nat → UInt64} {yA : Nat → sAcc} {yP : sPar} {yC : sCla} {yD : sDeb} {yJ : sJou} {yr : xF32} {yt : xF32} {yd : Int32} {yg : Int32} {yT0 : Int32} {yT2 : Int32} {yT3 : Int32} {yT4 : Int32} {yT5 : xF32} {yT6 : xF32} {yT7 : xF32} {yT8 : xF32} {yM1 : Int32} {yM2 : Int32} {yM3 : Int32} {yM4 : Int32} {yF0 : Int32} {yF1 : xF64} {yF3 : xF64} {yF4 : xF64} {yF5 : Int32} {yF7 : Int32} {yF9 : Int32} {yF10 : Int32} {yF11 : Int64} {yF13 : Int32} {yF14 : Int32} {yF15 : Int32} {yF16 : xF32} {yF17 : xF32} {yF18 : Int32} {yo : xF64} {A : Nat → Prop} {p : Program} {e : Env} {s : State} {m : MethodId} {args : Array Value} {below : List Frame} {meth : Method} {c : Code} {Q : State → Prop} {b L i kc ks : Nat} {xs : Nat → Int32}
    (hc : xC κ A p s m args meth c cL_law RL 9 (some .boolean)) (hlt : l.stackTraces = false) (hX : va_X b L xs s s.heap) (hbl : b < s.heap.size) (hbA : ¬ A b) (h1 : vp_in ((nI i) + 1) L) (h2 : vp_in ((nI i) + 2) L) (h3 : vp_in ((nI i) + 3) L) (e1 : xs ((nI i) + 1).toNatClampNeg = a1) (e2 : xs ((nI i) + 2).toNatClampNeg = a2) (e3 : xs ((nI i) + 3).toNatClampNeg = a3) (hz0 : kc ≤ room_1.cells ∧ ks ≤ room_1.slots) (hz1 : kc + 1 ≤ room_1.cells ∧ ks + 6 ≤ room_1.slots)
    (hf : f_C_34 fu uA uP uC uD uJ ur ut ud ug uT0 uT1 uT2 uT3 uT4 uT5 uT6 uT7 uT8 uM1 uM2 uM3 uM4 uF0 uF1 uF3 uF4 uF5 uF7 uF8 uF9 uF10 uF11 uF13 uF14 uF15 uF16 uF17 uF18 uo = some (yA, yP, yC, yD, yJ, yr, yt, yd, yg, yT0, yT2, yT3, yT4, yT5, yT6, yT7, yT8, yM1, yM2, yM3, yM4, yF0, yF1, yF3, yF4, yF5, yF7, yF9, yF10, yF11, yF13, yF14, yF15, yF16, yF17, yF18, yo))
    (K : ∀ (H : Heap) (locs : List Loc) (ls : Array Slot), xW κ A s (upA yA 0 (yP, yC, yD, yJ, yr, yt, yd, yg), (yT0, uT1, yT2, yT3, yT4, yT5, yT6, yT7, yT8), (uG0, uG1, uG2), (uM0, yM1, yM2, yM3, yM4), (yF0, yF1, uF2, yF3, yF4, yF5, uF6, yF7, uF8, yF9, yF10, yF11, uF12, yF13, yF14, yF15, yF16, yF17, yF18), yo, uv) H locs → lv_has ls 9 [(0, .ref b), (1, .ref (xAd κ 234)), (2, .ref (xAd κ 245)), (3, .ref (xAd κ 254)), (4, .ref (xAd κ 255)), (5, .int (nI i))] → W p l e room_1 s m args below meth c H locs (kc + 1) (ks + 6) Q (F0 m 2367 ls [])) :
    ∀ (H : Heap) (locs : List Loc) (ls : Array Slot), xW κ A s (upA uA 0 (uP, uC, uD, uJ, ur, ut, ud, ug), (uT0, uT1, uT2, uT3, uT4, uT5, uT6, uT7, uT8), (uG0, uG1, uG2), (uM0, uM1, uM2, uM3, uM4), (uF0, uF1, uF2, uF3, uF4, uF5, uF6, uF7, uF8, uF9, uF10, uF11, uF12, uF13, uF14, uF15, uF16, uF17, uF18), uo, uv) H locs → lv_has ls 9 [(0, .ref b), (1, .ref (xAd κ 234)), (2, .ref (xAd κ 245)), (3, .ref (xAd κ 254)), (4, .ref (xAd κ 255)), (5, .int (nI i))] → W p l e room_1 s m args below meth c H locs kc ks Q (F0 m 2178 ls []) := by
  have hx := hc.1.1
  have hb := hc.1.2.1
  intro H locs ls hw hl
  unfold f_C_34 at hf
  refine lv_aload_n hx hb dL_law_2178 rfl (lv_at hl 1 rfl) ?_
  refine lv_aload_n hx hb dL_law_2179 rfl (lv_at hl 3 rfl) ?_
  obtain ⟨v1, uA_2, uP_3, uC_4, uD_5, uJ_6, ur_7, ut_8, ud_9, ug_10, uT0_11, uT2_12, uT3_13, uT4_14, uT5_15, uT6_16, uT7_17, uT8_18, uM1_19, uM2_20, uM3_21, uM4_22, uo_23, h24, hf⟩ := xb23_of hf
  refine x_hcalliS (As := [.ref (xAd κ 234), .ref (xAd κ 254)]) (rest := []) (σ' := (upA uA_2 0 (uP_3, uC_4, uD_5, uJ_6, ur_7, ut_8, ud_9, ug_10), (uT0_11, uT1, uT2_12, uT3_13, uT4_14, uT5_15, uT6_16, uT7_17, uT8_18), (uG0, uG1, uG2), (uM0, uM1_19, uM2_20, uM3_21, uM4_22), (uF0, uF1, uF2, uF3, uF4, uF5, uF6, uF7, uF8, uF9, uF10, uF11, uF12, uF13, uF14, uF15, uF16, uF17, uF18), uo_23, uv)) hc hw hl.1 hlt (m_L_read h24) kL_256 rfl rfl ⟨rfl, rfl⟩ ⟨Nat.le_of_ble_eq_true rfl, Nat.le_of_ble_eq_true rfl⟩ hz1 (Nat.le_of_ble_eq_true rfl) dL_law_2180 (fun H locs hw => ?_)
  refine lv_istore (lv' := [(6, .int v1), (0, .ref b), (1, .ref (xAd κ 234)), (2, .ref (xAd κ 245)), (3, .ref (xAd κ 254)), (4, .ref (xAd κ 255)), (5, .int (nI i))]) hx hb dL_law_2183 hl (by decide) rfl (fun ls hl => ?_)
  refine lv_aload_n hx hb dL_law_2185 rfl (lv_at hl 3 rfl) ?_
  obtain ⟨v25, uF0_26, uF1_27, uF3_28, uF4_29, uF5_30, uF7_31, uF9_32, uF10_33, uF11_34, uF13_35, uF14_36, uF15_37, uF16_38, uF17_39, uF18_40, h41, hf⟩ := xb16_of hf
  refine x_calliV (As := []) (rest := []) (σ' := (upA uA_2 0 (uP_3, uC_4, uD_5, uJ_6, ur_7, ut_8, ud_9, ug_10), (uT0_11, uT1, uT2_12, uT3_13, uT4_14, uT5_15, uT6_16, uT7_17, uT8_18), (uG0, uG1, uG2), (uM0, uM1_19, uM2_20, uM3_21, uM4_22), (uF0_26, uF1_27, uF2, uF3_28, uF4_29, uF5_30, uF6, uF7_31, uF8, uF9_32, uF10_33, uF11_34, uF12, uF13_35, uF14_36, uF15_37, uF16_38, uF17_39, uF18_40), uo_23, uv)) hc hw hl.1 (m_X8_read h41) kL_258 co_245 rfl rfl ⟨rfl, rfl⟩ ⟨Nat.le_of_ble_eq_true rfl, Nat.le_of_ble_eq_true rfl⟩ hz1 (Nat.le_of_ble_eq_true rfl) dL_law_2186 (fun H locs hw => ?_)
  refine lv_istore (lv' := [(7, .int v25), (6, .int v1), (0, .ref b), (1, .ref (xAd κ 234)), (2, .ref (xAd κ 245)), (3, .ref (xAd κ 254)), (4, .ref (xAd κ 255)), (5, .int (nI i))]) hx hb dL_law_2189 hl (by decide) rfl (fun ls hl => ?_)
  refine lv_aload_n hx hb dL_law_2191 rfl (lv_at hl 4 rfl) ?_
  obtain ⟨v42, h43, hf⟩ := xb1_of hf
  refine x_calliV (As := []) (rest := []) (σ' := (upA uA_2 0 (uP_3, uC_4, uD_5, uJ_6, ur_7, ut_8, ud_9, ug_10), (uT0_11, uT1, uT2_12, uT3_13, uT4_14, uT5_15, uT6_16, uT7_17, uT8_18), (uG0, uG1, uG2), (uM0, uM1_19, uM2_20, uM3_21, uM4_22), (uF0_26, uF1_27, uF2, uF3_28, uF4_29, uF5_30, uF6, uF7_31, uF8, uF9_32, uF10_33, uF11_34, uF12, uF13_35, uF14_36, uF15_37, uF16_38, uF17_39, uF18_40), uo_23, uv)) hc hw hl.1 (m_X8_thrown h43) kL_148 co_245 rfl rfl ⟨rfl, rfl⟩ ⟨Nat.le_of_ble_eq_true rfl, Nat.le_of_ble_eq_true rfl⟩ hz1 (Nat.le_of_ble_eq_true rfl) dL_law_2192 (fun H locs hw => ?_)
  refine lv_iload hx hb dL_law_2195 (lv_at hl 1 rfl) ?_
  refine lv_icmp_eq (tgt := 2202) hx hb dL_law_2197 (by decide) (fun c44 => ?_) (fun c44 => ?_)
  · have hf := xif_t c44 hf
    refine lv_iload hx hb dL_law_2202 (lv_at hl 1 rfl) ?_
    refine lv_if_ne (tgt := 2219) hx hb dL_law_2204 (by decide) (fun c45 => ?_) (fun c45 => ?_)
    · have hf := xif_f c45 hf
      refine lv_goto (tgt := 2367) hx hb dL_law_2219 (by decide) ?_
      cases hf
      exact K _ _ _ hw (lv_sub hl [2, 3, 4, 5, 6, 7] rfl)
    · have hf := xif_t c45 hf
      refine lv_aload_n hx hb dL_law_2207 rfl (lv_at hl 5 rfl) ?_
      refine lv_iconst (v := 0) hx hb dL_law_2208 (by decide) ?_
      obtain ⟨k46, hf⟩ := xk_of hf
      refine x_lald (n := 1) (f := uo_23) hc hw co_254 k46 dL_law_2209 ?_
      refine lv_iload hx hb dL_law_2210 (lv_at hl 0 rfl) ?_
      refine lv_i2l (v := v25.toInt64) hx hb dL_law_2212 rfl ?_
      refine x_lcmp_eq (tgt := 2219) hx hb dL_law_2213 dL_law_2214 (by decide) (fun c47 => ?_) (fun c47 => ?_)
      · have hf := xif_t c47 hf
        refine lv_goto (tgt := 2367) hx hb dL_law_2219 (by decide) ?_
        cases hf
        exact K _ _ _ hw (lv_sub hl [2, 3, 4, 5, 6, 7] rfl)
      · have hf := xif_f c47 hf
        refine lv_iconst (v := 0) hx hb dL_law_2217 (by decide) ?_
        cases hf
  · have hf := xif_f c44 hf
    refine lv_iconst (v := 0) hx hb dL_law_2200 (by decide) ?_
    cases hf
set_option maxHeartbeats 4000000 in
set_option maxRecDepth 100000 in
theorem q_35 {l : Launch} {κ : xKt} {fu : Nat} {a1 a2 a3 : Int32} {uA : Nat → sAcc} {uP : sPar} {uC : sCla} {uD : sDeb} {uJ : sJou} {ur : xF32} {ut : xF32} {ud : Int32} {ug : Int32} {uT0 : Int32} {uT1 : xF32} {uT2 : Int32} {uT3 : Int32} {uT4 : Int32} {uT5 : xF32} {uT6 : xF32} {uT7 : xF32} {uT8 : xF32} {uG0 : Int32} {uG1 : xF32} {uG2 : xF32} {uM0 : Int32} {uM1 : Int32} {uM2 : Int32} {uM3 : Int32} {uM4 : Int32} {uF0 : Int32} {uF1 : xF64} {uF2 : xF64} {uF3 : xF64} {uF4 : xF64} {uF5 : Int32} {uF6 : Int32} {uF7 : Int32} {uF8 : xF32} {uF9 : Int32} {uF10 : Int32} {uF11 : Int64} {uF12 : xF32} {uF13 : Int32} {uF14 : Int32} {uF15 : Int32} {uF16 : xF32} {uF17 : xF32} {uF18 : Int32} {uo : xF64} {uv : Nat → UInt64} {yF0 : Int32} {yo : xF64} {A : Nat → Prop} {p : Program} {e : Env} {s : State} {m : MethodId} {args : Array Value} {below : List Frame} {meth : Method} {c : Code} {Q : State → Prop} {b L i kc ks : Nat} {xs : Nat → Int32}
    (hc : xC κ A p s m args meth c cL_law RL 9 (some .boolean)) (hlt : l.stackTraces = false) (hX : va_X b L xs s s.heap) (hbl : b < s.heap.size) (hbA : ¬ A b) (h1 : vp_in ((nI i) + 1) L) (h2 : vp_in ((nI i) + 2) L) (h3 : vp_in ((nI i) + 3) L) (e1 : xs ((nI i) + 1).toNatClampNeg = a1) (e2 : xs ((nI i) + 2).toNatClampNeg = a2) (e3 : xs ((nI i) + 3).toNatClampNeg = a3) (hz0 : kc ≤ room_1.cells ∧ ks ≤ room_1.slots) (hz1 : kc + 1 ≤ room_1.cells ∧ ks + 6 ≤ room_1.slots)
    (hf : f_C_35 fu uM4 uF0 uF10 uo = some (yF0, yo))
    (K : ∀ (H : Heap) (locs : List Loc) (ls : Array Slot), xW κ A s (upA uA 0 (uP, uC, uD, uJ, ur, ut, ud, ug), (uT0, uT1, uT2, uT3, uT4, uT5, uT6, uT7, uT8), (uG0, uG1, uG2), (uM0, uM1, uM2, uM3, uM4), (yF0, uF1, uF2, uF3, uF4, uF5, uF6, uF7, uF8, uF9, uF10, uF11, uF12, uF13, uF14, uF15, uF16, uF17, uF18), yo, uv) H locs → lv_has ls 9 [(0, .ref b), (1, .ref (xAd κ 234)), (2, .ref (xAd κ 245)), (3, .ref (xAd κ 254)), (4, .ref (xAd κ 255)), (5, .int (nI i))] → W p l e room_1 s m args below meth c H locs (kc + 1) (ks + 6) Q (F0 m 2367 ls [])) :
    ∀ (H : Heap) (locs : List Loc) (ls : Array Slot), xW κ A s (upA uA 0 (uP, uC, uD, uJ, ur, ut, ud, ug), (uT0, uT1, uT2, uT3, uT4, uT5, uT6, uT7, uT8), (uG0, uG1, uG2), (uM0, uM1, uM2, uM3, uM4), (uF0, uF1, uF2, uF3, uF4, uF5, uF6, uF7, uF8, uF9, uF10, uF11, uF12, uF13, uF14, uF15, uF16, uF17, uF18), uo, uv) H locs → lv_has ls 9 [(0, .ref b), (1, .ref (xAd κ 234)), (2, .ref (xAd κ 245)), (3, .ref (xAd κ 254)), (4, .ref (xAd κ 255)), (5, .int (nI i))] → W p l e room_1 s m args below meth c H locs kc ks Q (F0 m 2222 ls []) := by
  have hx := hc.1.1
  have hb := hc.1.2.1
  intro H locs ls hw hl
  unfold f_C_35 at hf
  refine lv_aload_n hx hb dL_law_2222 rfl (lv_at hl 1 rfl) ?_
  refine lv_aload_n hx hb dL_law_2223 rfl (lv_at hl 3 rfl) ?_
  obtain ⟨v1, uo_2, h3, hf⟩ := xb2_of hf
  refine x_hcalliS (As := [.ref (xAd κ 234), .ref (xAd κ 254)]) (rest := []) (σ' := (upA uA 0 (uP, uC, uD, uJ, ur, ut, ud, ug), (uT0, uT1, uT2, uT3, uT4, uT5, uT6, uT7, uT8), (uG0, uG1, uG2), (uM0, uM1, uM2, uM3, uM4), (uF0, uF1, uF2, uF3, uF4, uF5, uF6, uF7, uF8, uF9, uF10, uF11, uF12, uF13, uF14, uF15, uF16, uF17, uF18), uo_2, uv)) hc hw hl.1 hlt (m_L_errorPosition h3) kL_259 rfl rfl ⟨rfl, rfl⟩ ⟨Nat.le_of_ble_eq_true rfl, Nat.le_of_ble_eq_true rfl⟩ hz1 (Nat.le_of_ble_eq_true rfl) dL_law_2224 (fun H locs hw => ?_)
  refine lv_istore (lv' := [(6, .int v1), (0, .ref b), (1, .ref (xAd κ 234)), (2, .ref (xAd κ 245)), (3, .ref (xAd κ 254)), (4, .ref (xAd κ 255)), (5, .int (nI i))]) hx hb dL_law_2227 hl (by decide) rfl (fun ls hl => ?_)
  refine lv_aload_n hx hb dL_law_2229 rfl (lv_at hl 3 rfl) ?_
  obtain ⟨v4, uF0_5, h6, hf⟩ := xb2_of hf
  refine x_calliV (As := []) (rest := []) (σ' := (upA uA 0 (uP, uC, uD, uJ, ur, ut, ud, ug), (uT0, uT1, uT2, uT3, uT4, uT5, uT6, uT7, uT8), (uG0, uG1, uG2), (uM0, uM1, uM2, uM3, uM4), (uF0_5, uF1, uF2, uF3, uF4, uF5, uF6, uF7, uF8, uF9, uF10, uF11, uF12, uF13, uF14, uF15, uF16, uF17, uF18), uo_2, uv)) hc hw hl.1 (m_X8_errorPosition h6) kL_261 co_245 rfl rfl ⟨rfl, rfl⟩ ⟨Nat.le_of_ble_eq_true rfl, Nat.le_of_ble_eq_true rfl⟩ hz1 (Nat.le_of_ble_eq_true rfl) dL_law_2230 (fun H locs hw => ?_)
  refine lv_istore (lv' := [(7, .int v4), (6, .int v1), (0, .ref b), (1, .ref (xAd κ 234)), (2, .ref (xAd κ 245)), (3, .ref (xAd κ 254)), (4, .ref (xAd κ 255)), (5, .int (nI i))]) hx hb dL_law_2233 hl (by decide) rfl (fun ls hl => ?_)
  refine lv_aload_n hx hb dL_law_2235 rfl (lv_at hl 4 rfl) ?_
  obtain ⟨v7, h8, hf⟩ := xb1_of hf
  refine x_calliV (As := []) (rest := []) (σ' := (upA uA 0 (uP, uC, uD, uJ, ur, ut, ud, ug), (uT0, uT1, uT2, uT3, uT4, uT5, uT6, uT7, uT8), (uG0, uG1, uG2), (uM0, uM1, uM2, uM3, uM4), (uF0_5, uF1, uF2, uF3, uF4, uF5, uF6, uF7, uF8, uF9, uF10, uF11, uF12, uF13, uF14, uF15, uF16, uF17, uF18), uo_2, uv)) hc hw hl.1 (m_X8_thrown h8) kL_148 co_245 rfl rfl ⟨rfl, rfl⟩ ⟨Nat.le_of_ble_eq_true rfl, Nat.le_of_ble_eq_true rfl⟩ hz1 (Nat.le_of_ble_eq_true rfl) dL_law_2236 (fun H locs hw => ?_)
  refine lv_iload hx hb dL_law_2239 (lv_at hl 1 rfl) ?_
  refine lv_icmp_eq (tgt := 2246) hx hb dL_law_2241 (by decide) (fun c9 => ?_) (fun c9 => ?_)
  · have hf := xif_t c9 hf
    refine lv_iload hx hb dL_law_2246 (lv_at hl 1 rfl) ?_
    refine lv_if_ne (tgt := 2263) hx hb dL_law_2248 (by decide) (fun c10 => ?_) (fun c10 => ?_)
    · have hf := xif_f c10 hf
      refine lv_goto (tgt := 2367) hx hb dL_law_2263 (by decide) ?_
      cases hf
      exact K _ _ _ hw (lv_sub hl [2, 3, 4, 5, 6, 7] rfl)
    · have hf := xif_t c10 hf
      refine lv_aload_n hx hb dL_law_2251 rfl (lv_at hl 5 rfl) ?_
      refine lv_iconst (v := 0) hx hb dL_law_2252 (by decide) ?_
      obtain ⟨k11, hf⟩ := xk_of hf
      refine x_lald (n := 1) (f := uo_2) hc hw co_254 k11 dL_law_2253 ?_
      refine lv_iload hx hb dL_law_2254 (lv_at hl 0 rfl) ?_
      refine lv_i2l (v := v4.toInt64) hx hb dL_law_2256 rfl ?_
      refine x_lcmp_eq (tgt := 2263) hx hb dL_law_2257 dL_law_2258 (by decide) (fun c12 => ?_) (fun c12 => ?_)
      · have hf := xif_t c12 hf
        refine lv_goto (tgt := 2367) hx hb dL_law_2263 (by decide) ?_
        cases hf
        exact K _ _ _ hw (lv_sub hl [2, 3, 4, 5, 6, 7] rfl)
      · have hf := xif_f c12 hf
        refine lv_iconst (v := 0) hx hb dL_law_2261 (by decide) ?_
        cases hf
  · have hf := xif_f c9 hf
    refine lv_iconst (v := 0) hx hb dL_law_2244 (by decide) ?_
    cases hf
set_option maxHeartbeats 4000000 in
set_option maxRecDepth 100000 in
theorem q_36 {l : Launch} {κ : xKt} {fu : Nat} {a1 a2 a3 : Int32} {uA : Nat → sAcc} {uP : sPar} {uC : sCla} {uD : sDeb} {uJ : sJou} {ur : xF32} {ut : xF32} {ud : Int32} {ug : Int32} {uT0 : Int32} {uT1 : xF32} {uT2 : Int32} {uT3 : Int32} {uT4 : Int32} {uT5 : xF32} {uT6 : xF32} {uT7 : xF32} {uT8 : xF32} {uG0 : Int32} {uG1 : xF32} {uG2 : xF32} {uM0 : Int32} {uM1 : Int32} {uM2 : Int32} {uM3 : Int32} {uM4 : Int32} {uF0 : Int32} {uF1 : xF64} {uF2 : xF64} {uF3 : xF64} {uF4 : xF64} {uF5 : Int32} {uF6 : Int32} {uF7 : Int32} {uF8 : xF32} {uF9 : Int32} {uF10 : Int32} {uF11 : Int64} {uF12 : xF32} {uF13 : Int32} {uF14 : Int32} {uF15 : Int32} {uF16 : xF32} {uF17 : xF32} {uF18 : Int32} {uo : xF64} {uv : Nat → UInt64} {yP : sPar} {yC : sCla} {yD : sDeb} {yJ : sJou} {yr : xF32} {yt : xF32} {yd : Int32} {yg : Int32} {yM1 : Int32} {yM2 : Int32} {yF0 : Int32} {yF1 : xF64} {yF5 : Int32} {yo : xF64} {A : Nat → Prop} {p : Program} {e : Env} {s : State} {m : MethodId} {args : Array Value} {below : List Frame} {meth : Method} {c : Code} {Q : State → Prop} {b L i kc ks : Nat} {xs : Nat → Int32}
    (hc : xC κ A p s m args meth c cL_law RL 9 (some .boolean)) (hlt : l.stackTraces = false) (hX : va_X b L xs s s.heap) (hbl : b < s.heap.size) (hbA : ¬ A b) (h1 : vp_in ((nI i) + 1) L) (h2 : vp_in ((nI i) + 2) L) (h3 : vp_in ((nI i) + 3) L) (e1 : xs ((nI i) + 1).toNatClampNeg = a1) (e2 : xs ((nI i) + 2).toNatClampNeg = a2) (e3 : xs ((nI i) + 3).toNatClampNeg = a3) (hz0 : kc ≤ room_1.cells ∧ ks ≤ room_1.slots) (hz1 : kc + 1 ≤ room_1.cells ∧ ks + 6 ≤ room_1.slots)
    (hf : f_C_36 fu uA uP uC uD uJ ur ut ud ug uM1 uM2 uF0 uF1 uF4 uF5 uo = some (yP, yC, yD, yJ, yr, yt, yd, yg, yM1, yM2, yF0, yF1, yF5, yo))
    (K : ∀ (H : Heap) (locs : List Loc) (ls : Array Slot), xW κ A s (upA uA 0 (yP, yC, yD, yJ, yr, yt, yd, yg), (uT0, uT1, uT2, uT3, uT4, uT5, uT6, uT7, uT8), (uG0, uG1, uG2), (uM0, yM1, yM2, uM3, uM4), (yF0, yF1, uF2, uF3, uF4, yF5, uF6, uF7, uF8, uF9, uF10, uF11, uF12, uF13, uF14, uF15, uF16, uF17, uF18), yo, uv) H locs → lv_has ls 9 [(0, .ref b), (1, .ref (xAd κ 234)), (2, .ref (xAd κ 245)), (3, .ref (xAd κ 254)), (4, .ref (xAd κ 255)), (5, .int (nI i))] → W p l e room_1 s m args below meth c H locs (kc + 1) (ks + 6) Q (F0 m 2367 ls [])) :
    ∀ (H : Heap) (locs : List Loc) (ls : Array Slot), xW κ A s (upA uA 0 (uP, uC, uD, uJ, ur, ut, ud, ug), (uT0, uT1, uT2, uT3, uT4, uT5, uT6, uT7, uT8), (uG0, uG1, uG2), (uM0, uM1, uM2, uM3, uM4), (uF0, uF1, uF2, uF3, uF4, uF5, uF6, uF7, uF8, uF9, uF10, uF11, uF12, uF13, uF14, uF15, uF16, uF17, uF18), uo, uv) H locs → lv_has ls 9 [(0, .ref b), (1, .ref (xAd κ 234)), (2, .ref (xAd κ 245)), (3, .ref (xAd κ 254)), (4, .ref (xAd κ 255)), (5, .int (nI i))] → W p l e room_1 s m args below meth c H locs kc ks Q (F0 m 2266 ls []) := by
  have hx := hc.1.1
  have hb := hc.1.2.1
  intro H locs ls hw hl
  unfold f_C_36 at hf
  refine lv_aload_n hx hb dL_law_2266 rfl (lv_at hl 1 rfl) ?_
  refine lv_aload_n hx hb dL_law_2267 rfl (lv_at hl 3 rfl) ?_
  obtain ⟨v1, uP_2, uC_3, uD_4, uJ_5, ur_6, ut_7, ud_8, ug_9, uM1_10, uM2_11, uo_12, h13, hf⟩ := xb12_of hf
  refine x_hcalliS (As := [.ref (xAd κ 234), .ref (xAd κ 254)]) (rest := []) (σ' := (upA uA 0 (uP_2, uC_3, uD_4, uJ_5, ur_6, ut_7, ud_8, ug_9), (uT0, uT1, uT2, uT3, uT4, uT5, uT6, uT7, uT8), (uG0, uG1, uG2), (uM0, uM1_10, uM2_11, uM3, uM4), (uF0, uF1, uF2, uF3, uF4, uF5, uF6, uF7, uF8, uF9, uF10, uF11, uF12, uF13, uF14, uF15, uF16, uF17, uF18), uo_12, uv)) hc hw hl.1 hlt (m_L_undo h13) kL_262 rfl rfl ⟨rfl, rfl⟩ ⟨Nat.le_of_ble_eq_true rfl, Nat.le_of_ble_eq_true rfl⟩ hz1 (Nat.le_of_ble_eq_true rfl) dL_law_2268 (fun H locs hw => ?_)
  refine lv_istore (lv' := [(6, .int v1), (0, .ref b), (1, .ref (xAd κ 234)), (2, .ref (xAd κ 245)), (3, .ref (xAd κ 254)), (4, .ref (xAd κ 255)), (5, .int (nI i))]) hx hb dL_law_2271 hl (by decide) rfl (fun ls hl => ?_)
  refine lv_aload_n hx hb dL_law_2273 rfl (lv_at hl 3 rfl) ?_
  obtain ⟨v14, uF0_15, uF1_16, uF5_17, h18, hf⟩ := xb4_of hf
  refine x_calliV (As := []) (rest := []) (σ' := (upA uA 0 (uP_2, uC_3, uD_4, uJ_5, ur_6, ut_7, ud_8, ug_9), (uT0, uT1, uT2, uT3, uT4, uT5, uT6, uT7, uT8), (uG0, uG1, uG2), (uM0, uM1_10, uM2_11, uM3, uM4), (uF0_15, uF1_16, uF2, uF3, uF4, uF5_17, uF6, uF7, uF8, uF9, uF10, uF11, uF12, uF13, uF14, uF15, uF16, uF17, uF18), uo_12, uv)) hc hw hl.1 (m_X8_undo h18) kL_264 co_245 rfl rfl ⟨rfl, rfl⟩ ⟨Nat.le_of_ble_eq_true rfl, Nat.le_of_ble_eq_true rfl⟩ hz1 (Nat.le_of_ble_eq_true rfl) dL_law_2274 (fun H locs hw => ?_)
  refine lv_istore (lv' := [(7, .int v14), (6, .int v1), (0, .ref b), (1, .ref (xAd κ 234)), (2, .ref (xAd κ 245)), (3, .ref (xAd κ 254)), (4, .ref (xAd κ 255)), (5, .int (nI i))]) hx hb dL_law_2277 hl (by decide) rfl (fun ls hl => ?_)
  refine lv_aload_n hx hb dL_law_2279 rfl (lv_at hl 4 rfl) ?_
  obtain ⟨v19, h20, hf⟩ := xb1_of hf
  refine x_calliV (As := []) (rest := []) (σ' := (upA uA 0 (uP_2, uC_3, uD_4, uJ_5, ur_6, ut_7, ud_8, ug_9), (uT0, uT1, uT2, uT3, uT4, uT5, uT6, uT7, uT8), (uG0, uG1, uG2), (uM0, uM1_10, uM2_11, uM3, uM4), (uF0_15, uF1_16, uF2, uF3, uF4, uF5_17, uF6, uF7, uF8, uF9, uF10, uF11, uF12, uF13, uF14, uF15, uF16, uF17, uF18), uo_12, uv)) hc hw hl.1 (m_X8_thrown h20) kL_148 co_245 rfl rfl ⟨rfl, rfl⟩ ⟨Nat.le_of_ble_eq_true rfl, Nat.le_of_ble_eq_true rfl⟩ hz1 (Nat.le_of_ble_eq_true rfl) dL_law_2280 (fun H locs hw => ?_)
  refine lv_iload hx hb dL_law_2283 (lv_at hl 1 rfl) ?_
  refine lv_icmp_eq (tgt := 2290) hx hb dL_law_2285 (by decide) (fun c21 => ?_) (fun c21 => ?_)
  · have hf := xif_t c21 hf
    refine lv_iload hx hb dL_law_2290 (lv_at hl 1 rfl) ?_
    refine lv_if_ne (tgt := 2307) hx hb dL_law_2292 (by decide) (fun c22 => ?_) (fun c22 => ?_)
    · have hf := xif_f c22 hf
      refine lv_goto (tgt := 2367) hx hb dL_law_2307 (by decide) ?_
      cases hf
      exact K _ _ _ hw (lv_sub hl [2, 3, 4, 5, 6, 7] rfl)
    · have hf := xif_t c22 hf
      refine lv_aload_n hx hb dL_law_2295 rfl (lv_at hl 5 rfl) ?_
      refine lv_iconst (v := 0) hx hb dL_law_2296 (by decide) ?_
      obtain ⟨k23, hf⟩ := xk_of hf
      refine x_lald (n := 1) (f := uo_12) hc hw co_254 k23 dL_law_2297 ?_
      refine lv_iload hx hb dL_law_2298 (lv_at hl 0 rfl) ?_
      refine lv_i2l (v := v14.toInt64) hx hb dL_law_2300 rfl ?_
      refine x_lcmp_eq (tgt := 2307) hx hb dL_law_2301 dL_law_2302 (by decide) (fun c24 => ?_) (fun c24 => ?_)
      · have hf := xif_t c24 hf
        refine lv_goto (tgt := 2367) hx hb dL_law_2307 (by decide) ?_
        cases hf
        exact K _ _ _ hw (lv_sub hl [2, 3, 4, 5, 6, 7] rfl)
      · have hf := xif_f c24 hf
        refine lv_iconst (v := 0) hx hb dL_law_2305 (by decide) ?_
        cases hf
  · have hf := xif_f c21 hf
    refine lv_iconst (v := 0) hx hb dL_law_2288 (by decide) ?_
    cases hf
set_option maxHeartbeats 4000000 in
set_option maxRecDepth 100000 in
theorem q_37 {l : Launch} {κ : xKt} {fu : Nat} {a1 a2 a3 : Int32} {uA : Nat → sAcc} {uP : sPar} {uC : sCla} {uD : sDeb} {uJ : sJou} {ur : xF32} {ut : xF32} {ud : Int32} {ug : Int32} {uT0 : Int32} {uT1 : xF32} {uT2 : Int32} {uT3 : Int32} {uT4 : Int32} {uT5 : xF32} {uT6 : xF32} {uT7 : xF32} {uT8 : xF32} {uG0 : Int32} {uG1 : xF32} {uG2 : xF32} {uM0 : Int32} {uM1 : Int32} {uM2 : Int32} {uM3 : Int32} {uM4 : Int32} {uF0 : Int32} {uF1 : xF64} {uF2 : xF64} {uF3 : xF64} {uF4 : xF64} {uF5 : Int32} {uF6 : Int32} {uF7 : Int32} {uF8 : xF32} {uF9 : Int32} {uF10 : Int32} {uF11 : Int64} {uF12 : xF32} {uF13 : Int32} {uF14 : Int32} {uF15 : Int32} {uF16 : xF32} {uF17 : xF32} {uF18 : Int32} {uo : xF64} {uv : Nat → UInt64} {yA : Nat → sAcc} {yM0 : Int32} {yF0 : Int32} {yF2 : xF64} {yF6 : Int32} {A : Nat → Prop} {p : Program} {e : Env} {s : State} {m : MethodId} {args : Array Value} {below : List Frame} {meth : Method} {c : Code} {Q : State → Prop} {b L i kc ks : Nat} {xs : Nat → Int32}
    (hc : xC κ A p s m args meth c cL_law RL 9 (some .boolean)) (hlt : l.stackTraces = false) (hX : va_X b L xs s s.heap) (hbl : b < s.heap.size) (hbA : ¬ A b) (h1 : vp_in ((nI i) + 1) L) (h2 : vp_in ((nI i) + 2) L) (h3 : vp_in ((nI i) + 3) L) (e1 : xs ((nI i) + 1).toNatClampNeg = a1) (e2 : xs ((nI i) + 2).toNatClampNeg = a2) (e3 : xs ((nI i) + 3).toNatClampNeg = a3) (hz0 : kc ≤ room_1.cells ∧ ks ≤ room_1.slots) (hz1 : kc + 1 ≤ room_1.cells ∧ ks + 6 ≤ room_1.slots)
    (hf : f_C_37 fu uA uP uC uD uJ ur ut ud ug uM0 uF0 uF1 uF2 uF6 = some (yA, yM0, yF0, yF2, yF6))
    (K : ∀ (H : Heap) (locs : List Loc) (ls : Array Slot), xW κ A s (upA yA 0 (uP, uC, uD, uJ, ur, ut, ud, ug), (uT0, uT1, uT2, uT3, uT4, uT5, uT6, uT7, uT8), (uG0, uG1, uG2), (yM0, uM1, uM2, uM3, uM4), (yF0, uF1, yF2, uF3, uF4, uF5, yF6, uF7, uF8, uF9, uF10, uF11, uF12, uF13, uF14, uF15, uF16, uF17, uF18), uo, uv) H locs → lv_has ls 9 [(0, .ref b), (1, .ref (xAd κ 234)), (2, .ref (xAd κ 245)), (3, .ref (xAd κ 254)), (4, .ref (xAd κ 255)), (5, .int (nI i))] → W p l e room_1 s m args below meth c H locs (kc + 1) (ks + 6) Q (F0 m 2367 ls [])) :
    ∀ (H : Heap) (locs : List Loc) (ls : Array Slot), xW κ A s (upA uA 0 (uP, uC, uD, uJ, ur, ut, ud, ug), (uT0, uT1, uT2, uT3, uT4, uT5, uT6, uT7, uT8), (uG0, uG1, uG2), (uM0, uM1, uM2, uM3, uM4), (uF0, uF1, uF2, uF3, uF4, uF5, uF6, uF7, uF8, uF9, uF10, uF11, uF12, uF13, uF14, uF15, uF16, uF17, uF18), uo, uv) H locs → lv_has ls 9 [(0, .ref b), (1, .ref (xAd κ 234)), (2, .ref (xAd κ 245)), (3, .ref (xAd κ 254)), (4, .ref (xAd κ 255)), (5, .int (nI i))] → W p l e room_1 s m args below meth c H locs kc ks Q (F0 m 2310 ls []) := by
  have hx := hc.1.1
  have hb := hc.1.2.1
  intro H locs ls hw hl
  unfold f_C_37 at hf
  refine lv_aload_n hx hb dL_law_2310 rfl (lv_at hl 1 rfl) ?_
  obtain ⟨v1, uA_2, uM0_3, h4, hf⟩ := xb3_of hf
  refine x_calliV (As := []) (rest := []) (σ' := (upA uA_2 0 (uP, uC, uD, uJ, ur, ut, ud, ug), (uT0, uT1, uT2, uT3, uT4, uT5, uT6, uT7, uT8), (uG0, uG1, uG2), (uM0_3, uM1, uM2, uM3, uM4), (uF0, uF1, uF2, uF3, uF4, uF5, uF6, uF7, uF8, uF9, uF10, uF11, uF12, uF13, uF14, uF15, uF16, uF17, uF18), uo, uv)) hc hw hl.1 (m_X7_save h4) kL_265 co_234 rfl rfl ⟨rfl, rfl⟩ ⟨Nat.le_of_ble_eq_true rfl, Nat.le_of_ble_eq_true rfl⟩ hz0 (Nat.le_of_ble_eq_true rfl) dL_law_2311 (fun H locs hw => ?_)
  refine lv_aload_n hx hb dL_law_2314 rfl (lv_at hl 2 rfl) ?_
  obtain ⟨v5, uF0_6, uF2_7, uF6_8, h9, hf⟩ := xb4_of hf
  refine x_calliV (As := []) (rest := [.int v1]) (σ' := (upA uA_2 0 (uP, uC, uD, uJ, ur, ut, ud, ug), (uT0, uT1, uT2, uT3, uT4, uT5, uT6, uT7, uT8), (uG0, uG1, uG2), (uM0_3, uM1, uM2, uM3, uM4), (uF0_6, uF1, uF2_7, uF3, uF4, uF5, uF6_8, uF7, uF8, uF9, uF10, uF11, uF12, uF13, uF14, uF15, uF16, uF17, uF18), uo, uv)) hc hw hl.1 (m_X8_save h9) kL_268 co_245 rfl rfl ⟨rfl, rfl⟩ ⟨Nat.le_of_ble_eq_true rfl, Nat.le_of_ble_eq_true rfl⟩ hz0 (Nat.le_of_ble_eq_true rfl) dL_law_2315 (fun H locs hw => ?_)
  refine lv_icmp_eq (tgt := 2367) hx hb dL_law_2318 (by decide) (fun c10 => ?_) (fun c10 => ?_)
  · have hf := xif_t c10 hf
    cases hf
    exact W.widen (Nat.le_succ _) (Nat.le_add_right _ _) (K _ _ _ hw (lv_sub hl [0, 1, 2, 3, 4, 5] rfl))
  · have hf := xif_f c10 hf
    refine lv_iconst (v := 0) hx hb dL_law_2321 (by decide) ?_
    cases hf
set_option maxHeartbeats 4000000 in
set_option maxRecDepth 100000 in
theorem q_38 {l : Launch} {κ : xKt} {fu : Nat} {a1 a2 a3 : Int32} {uA : Nat → sAcc} {uP : sPar} {uC : sCla} {uD : sDeb} {uJ : sJou} {ur : xF32} {ut : xF32} {ud : Int32} {ug : Int32} {uT0 : Int32} {uT1 : xF32} {uT2 : Int32} {uT3 : Int32} {uT4 : Int32} {uT5 : xF32} {uT6 : xF32} {uT7 : xF32} {uT8 : xF32} {uG0 : Int32} {uG1 : xF32} {uG2 : xF32} {uM0 : Int32} {uM1 : Int32} {uM2 : Int32} {uM3 : Int32} {uM4 : Int32} {uF0 : Int32} {uF1 : xF64} {uF2 : xF64} {uF3 : xF64} {uF4 : xF64} {uF5 : Int32} {uF6 : Int32} {uF7 : Int32} {uF8 : xF32} {uF9 : Int32} {uF10 : Int32} {uF11 : Int64} {uF12 : xF32} {uF13 : Int32} {uF14 : Int32} {uF15 : Int32} {uF16 : xF32} {uF17 : xF32} {uF18 : Int32} {uo : xF64} {uv : Nat → UInt64} {yP : sPar} {yC : sCla} {yD : sDeb} {yJ : sJou} {yr : xF32} {yt : xF32} {yd : Int32} {yg : Int32} {yM2 : Int32} {yF0 : Int32} {yF1 : xF64} {yF5 : Int32} {yo : xF64} {A : Nat → Prop} {p : Program} {e : Env} {s : State} {m : MethodId} {args : Array Value} {below : List Frame} {meth : Method} {c : Code} {Q : State → Prop} {b L i kc ks : Nat} {xs : Nat → Int32}
    (hc : xC κ A p s m args meth c cL_law RL 9 (some .boolean)) (hlt : l.stackTraces = false) (hX : va_X b L xs s s.heap) (hbl : b < s.heap.size) (hbA : ¬ A b) (h1 : vp_in ((nI i) + 1) L) (h2 : vp_in ((nI i) + 2) L) (h3 : vp_in ((nI i) + 3) L) (e1 : xs ((nI i) + 1).toNatClampNeg = a1) (e2 : xs ((nI i) + 2).toNatClampNeg = a2) (e3 : xs ((nI i) + 3).toNatClampNeg = a3) (hz0 : kc ≤ room_1.cells ∧ ks ≤ room_1.slots) (hz1 : kc + 1 ≤ room_1.cells ∧ ks + 6 ≤ room_1.slots)
    (hf : f_C_38 fu uA uP uC uD uJ ur ut ud ug uM0 uM2 uF0 uF1 uF2 uF5 uF6 uo = some (yP, yC, yD, yJ, yr, yt, yd, yg, yM2, yF0, yF1, yF5, yo))
    (K : ∀ (H : Heap) (locs : List Loc) (ls : Array Slot), xW κ A s (upA uA 0 (yP, yC, yD, yJ, yr, yt, yd, yg), (uT0, uT1, uT2, uT3, uT4, uT5, uT6, uT7, uT8), (uG0, uG1, uG2), (uM0, uM1, yM2, uM3, uM4), (yF0, yF1, uF2, uF3, uF4, yF5, uF6, uF7, uF8, uF9, uF10, uF11, uF12, uF13, uF14, uF15, uF16, uF17, uF18), yo, uv) H locs → lv_has ls 9 [(0, .ref b), (1, .ref (xAd κ 234)), (2, .ref (xAd κ 245)), (3, .ref (xAd κ 254)), (4, .ref (xAd κ 255)), (5, .int (nI i))] → W p l e room_1 s m args below meth c H locs (kc + 1) (ks + 6) Q (F0 m 2367 ls [])) :
    ∀ (H : Heap) (locs : List Loc) (ls : Array Slot), xW κ A s (upA uA 0 (uP, uC, uD, uJ, ur, ut, ud, ug), (uT0, uT1, uT2, uT3, uT4, uT5, uT6, uT7, uT8), (uG0, uG1, uG2), (uM0, uM1, uM2, uM3, uM4), (uF0, uF1, uF2, uF3, uF4, uF5, uF6, uF7, uF8, uF9, uF10, uF11, uF12, uF13, uF14, uF15, uF16, uF17, uF18), uo, uv) H locs → lv_has ls 9 [(0, .ref b), (1, .ref (xAd κ 234)), (2, .ref (xAd κ 245)), (3, .ref (xAd κ 254)), (4, .ref (xAd κ 255)), (5, .int (nI i))] → W p l e room_1 s m args below meth c H locs kc ks Q (F0 m 2323 ls []) := by
  have hx := hc.1.1
  have hb := hc.1.2.1
  intro H locs ls hw hl
  unfold f_C_38 at hf
  refine lv_aload_n hx hb dL_law_2323 rfl (lv_at hl 1 rfl) ?_
  refine lv_aload_n hx hb dL_law_2324 rfl (lv_at hl 3 rfl) ?_
  obtain ⟨v1, uP_2, uC_3, uD_4, uJ_5, ur_6, ut_7, ud_8, ug_9, uM2_10, uo_11, h12, hf⟩ := xb11_of hf
  refine x_hcalliS (As := [.ref (xAd κ 234), .ref (xAd κ 254)]) (rest := []) (σ' := (upA uA 0 (uP_2, uC_3, uD_4, uJ_5, ur_6, ut_7, ud_8, ug_9), (uT0, uT1, uT2, uT3, uT4, uT5, uT6, uT7, uT8), (uG0, uG1, uG2), (uM0, uM1, uM2_10, uM3, uM4), (uF0, uF1, uF2, uF3, uF4, uF5, uF6, uF7, uF8, uF9, uF10, uF11, uF12, uF13, uF14, uF15, uF16, uF17, uF18), uo_11, uv)) hc hw hl.1 hlt (m_L_restore h12) kL_269 rfl rfl ⟨rfl, rfl⟩ ⟨Nat.le_of_ble_eq_true rfl, Nat.le_of_ble_eq_true rfl⟩ hz1 (Nat.le_of_ble_eq_true rfl) dL_law_2325 (fun H locs hw => ?_)
  refine lv_istore (lv' := [(6, .int v1), (0, .ref b), (1, .ref (xAd κ 234)), (2, .ref (xAd κ 245)), (3, .ref (xAd κ 254)), (4, .ref (xAd κ 255)), (5, .int (nI i))]) hx hb dL_law_2328 hl (by decide) rfl (fun ls hl => ?_)
  refine lv_aload_n hx hb dL_law_2330 rfl (lv_at hl 3 rfl) ?_
  obtain ⟨v13, uF0_14, uF1_15, uF5_16, h17, hf⟩ := xb4_of hf
  refine x_calliV (As := []) (rest := []) (σ' := (upA uA 0 (uP_2, uC_3, uD_4, uJ_5, ur_6, ut_7, ud_8, ug_9), (uT0, uT1, uT2, uT3, uT4, uT5, uT6, uT7, uT8), (uG0, uG1, uG2), (uM0, uM1, uM2_10, uM3, uM4), (uF0_14, uF1_15, uF2, uF3, uF4, uF5_16, uF6, uF7, uF8, uF9, uF10, uF11, uF12, uF13, uF14, uF15, uF16, uF17, uF18), uo_11, uv)) hc hw hl.1 (m_X8_restore h17) kL_271 co_245 rfl rfl ⟨rfl, rfl⟩ ⟨Nat.le_of_ble_eq_true rfl, Nat.le_of_ble_eq_true rfl⟩ hz1 (Nat.le_of_ble_eq_true rfl) dL_law_2331 (fun H locs hw => ?_)
  refine lv_istore (lv' := [(7, .int v13), (6, .int v1), (0, .ref b), (1, .ref (xAd κ 234)), (2, .ref (xAd κ 245)), (3, .ref (xAd κ 254)), (4, .ref (xAd κ 255)), (5, .int (nI i))]) hx hb dL_law_2334 hl (by decide) rfl (fun ls hl => ?_)
  refine lv_aload_n hx hb dL_law_2336 rfl (lv_at hl 4 rfl) ?_
  obtain ⟨v18, h19, hf⟩ := xb1_of hf
  refine x_calliV (As := []) (rest := []) (σ' := (upA uA 0 (uP_2, uC_3, uD_4, uJ_5, ur_6, ut_7, ud_8, ug_9), (uT0, uT1, uT2, uT3, uT4, uT5, uT6, uT7, uT8), (uG0, uG1, uG2), (uM0, uM1, uM2_10, uM3, uM4), (uF0_14, uF1_15, uF2, uF3, uF4, uF5_16, uF6, uF7, uF8, uF9, uF10, uF11, uF12, uF13, uF14, uF15, uF16, uF17, uF18), uo_11, uv)) hc hw hl.1 (m_X8_thrown h19) kL_148 co_245 rfl rfl ⟨rfl, rfl⟩ ⟨Nat.le_of_ble_eq_true rfl, Nat.le_of_ble_eq_true rfl⟩ hz1 (Nat.le_of_ble_eq_true rfl) dL_law_2337 (fun H locs hw => ?_)
  refine lv_iload hx hb dL_law_2340 (lv_at hl 1 rfl) ?_
  refine lv_icmp_eq (tgt := 2347) hx hb dL_law_2342 (by decide) (fun c20 => ?_) (fun c20 => ?_)
  · have hf := xif_t c20 hf
    refine lv_iload hx hb dL_law_2347 (lv_at hl 1 rfl) ?_
    refine lv_if_ne (tgt := 2364) hx hb dL_law_2349 (by decide) (fun c21 => ?_) (fun c21 => ?_)
    · have hf := xif_f c21 hf
      refine lv_goto (tgt := 2367) hx hb dL_law_2364 (by decide) ?_
      cases hf
      exact K _ _ _ hw (lv_sub hl [2, 3, 4, 5, 6, 7] rfl)
    · have hf := xif_t c21 hf
      refine lv_aload_n hx hb dL_law_2352 rfl (lv_at hl 5 rfl) ?_
      refine lv_iconst (v := 0) hx hb dL_law_2353 (by decide) ?_
      obtain ⟨k22, hf⟩ := xk_of hf
      refine x_lald (n := 1) (f := uo_11) hc hw co_254 k22 dL_law_2354 ?_
      refine lv_iload hx hb dL_law_2355 (lv_at hl 0 rfl) ?_
      refine lv_i2l (v := v13.toInt64) hx hb dL_law_2357 rfl ?_
      refine x_lcmp_eq (tgt := 2364) hx hb dL_law_2358 dL_law_2359 (by decide) (fun c23 => ?_) (fun c23 => ?_)
      · have hf := xif_t c23 hf
        refine lv_goto (tgt := 2367) hx hb dL_law_2364 (by decide) ?_
        cases hf
        exact K _ _ _ hw (lv_sub hl [2, 3, 4, 5, 6, 7] rfl)
      · have hf := xif_f c23 hf
        refine lv_iconst (v := 0) hx hb dL_law_2362 (by decide) ?_
        cases hf
  · have hf := xif_f c20 hf
    refine lv_iconst (v := 0) hx hb dL_law_2345 (by decide) ?_
    cases hf
