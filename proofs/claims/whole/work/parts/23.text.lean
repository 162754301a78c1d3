def f_X7_isWithin (x0 : Int32) (x1 : Int32) (x2 : Int32) : Option Int32 :=
  if x0 < x1 then (some 0) else (if x2 < x0 then (some 0) else (some 1))
set_option maxHeartbeats 4000000 in
set_option maxRecDepth 100000 in
theorem m_X7_isWithin {l : Launch} {κ : xKt} {wS : sW}  {x0 : Int32} {x1 : Int32} {x2 : Int32} {rr : Int32} (hf : f_X7_isWithin x0 x1 x2 = some rr) : xMi l κ yX7_isWithin cX7_isWithin 3 (some .boolean) (xR 0 0 0) [.int x0, .int x1, .int x2] wS wS rr := by
  unfold f_X7_isWithin at hf
  refine xMi_of pn_X7 (Nat.le_of_ble_eq_true rfl) ⟨rfl, rfl⟩ ?_
  intro A p e s m args below meth c ls Q hc hw hl K
  have hc : xC κ A p s m args meth c cX7_isWithin RX7 3 (some .boolean) := hc
  have hx := hc.1.1
  have hb := hc.1.2.1
  have hl : lv_has ls 3 [(0, .int x0), (1, .int x1), (2, .int x2)] := hl
  refine lv_iload_n hx hb dX7_isWithin_0 rfl (lv_at hl 0 rfl) ?_
  refine lv_iload_n hx hb dX7_isWithin_1 rfl (lv_at hl 1 rfl) ?_
  refine lv_icmp_lt (tgt := 14) hx hb dX7_isWithin_2 (by decide) (fun c1 => ?_) (fun c1 => ?_)
  · have hf := xif_t c1 hf
    refine lv_iconst (v := 0) hx hb dX7_isWithin_14 (by decide) ?_
    cases hf
    exact K _ _ _ _ dX7_isWithin_15 rfl hw
  · have hf := xif_f c1 hf
    refine lv_iload_n hx hb dX7_isWithin_5 rfl (lv_at hl 0 rfl) ?_
    refine lv_iload_n hx hb dX7_isWithin_6 rfl (lv_at hl 2 rfl) ?_
    refine lv_icmp_gt (tgt := 14) hx hb dX7_isWithin_7 (by decide) (fun c2 => ?_) (fun c2 => ?_)
    · have hf := xif_t c2 hf
      refine lv_iconst (v := 0) hx hb dX7_isWithin_14 (by decide) ?_
      cases hf
      exact K _ _ _ _ dX7_isWithin_15 rfl hw
    · have hf := xif_f c2 hf
      refine lv_iconst (v := 1) hx hb dX7_isWithin_10 (by decide) ?_
      refine lv_goto (tgt := 15) hx hb dX7_isWithin_11 (by decide) ?_
      cases hf
      exact K _ _ _ _ dX7_isWithin_15 rfl hw
def f_X7_isAmount (x0 : Int32) : Option Int32 :=
  xb1 (f_X7_isWithin x0 1 100000000) fun v1 => (xk (xisb v1) (some v1))
set_option maxHeartbeats 4000000 in
set_option maxRecDepth 100000 in
theorem m_X7_isAmount {l : Launch} {κ : xKt} {wS : sW}  {x0 : Int32} {rr : Int32} (hf : f_X7_isAmount x0 = some rr) : xMi l κ yX7_isAmount cX7_isAmount 1 (some .boolean) (xR 1 0 0) [.int x0] wS wS rr := by
  unfold f_X7_isAmount at hf
  refine xMi_of pn_X7 (Nat.le_of_ble_eq_true rfl) ⟨rfl, rfl⟩ ?_
  intro A p e s m args below meth c ls Q hc hw hl K
  have hc : xC κ A p s m args meth c cX7_isAmount RX7 1 (some .boolean) := hc
  have hx := hc.1.1
  have hb := hc.1.2.1
  have hl : lv_has ls 1 [(0, .int x0)] := hl
  refine lv_iload_n hx hb dX7_isAmount_0 rfl (lv_at hl 0 rfl) ?_
  refine lv_iconst (v := 1) hx hb dX7_isAmount_1 (by decide) ?_
  refine x_ldcw hc w_constant_RX7_338_100000000 dX7_isAmount_2 ?_
  obtain ⟨v1, h2, hf⟩ := xb1_of hf
  refine x_calliS (As := [.int x0, .int 1, .int 100000000]) (rest := []) (σ' := wS) hc hw hl.1 (m_X7_isWithin h2) kX7_70 rfl rfl ⟨rfl, rfl⟩ ⟨Nat.le_of_ble_eq_true rfl, Nat.le_of_ble_eq_true rfl⟩ ⟨Nat.zero_le _, Nat.zero_le _⟩ (Nat.le_of_ble_eq_true rfl) dX7_isAmount_5 (fun H locs hw => ?_)
  obtain ⟨k3, hf⟩ := xk_of hf
  cases hf
  exact K _ _ _ _ dX7_isAmount_8 (xisb_n k3).1 hw
def f_X6_addOne (x1 : Int32) (uT0 : Int32) (uT1 : xF32) : Option (Int32 × Int32 × xF32) :=
  if 70 ≤ uT0 then (some (uT0, uT0, uT1)) else (xk (xin uT0 70) (some ((uT0 + 1), (uT0 + 1), (upd uT1 uT0.toNatClampNeg (vp_nar .char x1)))))
set_option maxHeartbeats 4000000 in
set_option maxRecDepth 100000 in
theorem m_X6_addOne {l : Launch} {κ : xKt} {wA : Nat → sAcc} {wZ : sRng × sMai × sRef × sOut}  {x1 : Int32} {uT0 : Int32} {uT1 : xF32} {uT2 : Int32} {uT3 : Int32} {uT4 : Int32} {uT5 : xF32} {uT6 : xF32} {uT7 : xF32} {uT8 : xF32} {rr : Int32} {yT0 : Int32} {yT1 : xF32} (hf : f_X6_addOne x1 uT0 uT1 = some (rr, yT0, yT1)) : xMi l κ yX6_addOne cX6_addOne 2 (some .int) (xR 0 0 0) [.ref (xAd κ 236), .int x1] (wA, (uT0, uT1, uT2, uT3, uT4, uT5, uT6, uT7, uT8), wZ) (wA, (yT0, yT1, uT2, uT3, uT4, uT5, uT6, uT7, uT8), wZ) rr := by
  unfold f_X6_addOne at hf
  refine xMi_of pn_X6 (Nat.le_of_ble_eq_true rfl) ⟨rfl, rfl⟩ ?_
  intro A p e s m args below meth c ls Q hc hw hl K
  have hc : xC κ A p s m args meth c cX6_addOne RX6 2 (some .int) := hc
  have hx := hc.1.1
  have hb := hc.1.2.1
  have hl : lv_has ls 2 [(0, .ref (xAd κ 236)), (1, .int x1)] := hl
  refine lv_aload_n hx hb dX6_addOne_0 rfl (lv_at hl 0 rfl) ?_
  refine x_get (v := .int uT0) hc hw co_236 fX6_9 rfl dX6_addOne_1 ?_
  refine lv_bipush (v := 70) hx hb dX6_addOne_4 (by decide) ?_
  refine lv_icmp_ge (tgt := 29) hx hb dX6_addOne_6 (by decide) (fun c1 => ?_) (fun c1 => ?_)
  · have hf := xif_t c1 hf
    refine lv_aload_n hx hb dX6_addOne_29 rfl (lv_at hl 0 rfl) ?_
    refine x_get (v := .int uT0) hc hw co_236 fX6_9 rfl dX6_addOne_30 ?_
    cases hf
    exact K _ _ _ _ dX6_addOne_33 rfl hw
  · have hf := xif_f c1 hf
    refine lv_aload_n hx hb dX6_addOne_9 rfl (lv_at hl 0 rfl) ?_
    refine x_get (v := .ref (xAd κ 237)) hc hw co_236 fX6_15 rfl dX6_addOne_10 ?_
    refine lv_aload_n hx hb dX6_addOne_13 rfl (lv_at hl 0 rfl) ?_
    refine x_get (v := .int uT0) hc hw co_236 fX6_9 rfl dX6_addOne_14 ?_
    refine lv_iload_n hx hb dX6_addOne_17 rfl (lv_at hl 1 rfl) ?_
    obtain ⟨k2, hf⟩ := xk_of hf
    refine x_cast (n := 70) (f := uT1) (σ' := (wA, (uT0, (upd uT1 uT0.toNatClampNeg (vp_nar .char x1)), uT2, uT3, uT4, uT5, uT6, uT7, uT8), wZ)) hc hw co_237 k2 so_T_1 dX6_addOne_18 (fun H locs hw => ?_)
    refine lv_aload_n hx hb dX6_addOne_19 rfl (lv_at hl 0 rfl) ?_
    refine lv_dup hx hb dX6_addOne_20 rfl ?_
    refine x_get (v := .int uT0) hc hw co_236 fX6_9 rfl dX6_addOne_21 ?_
    refine lv_iconst (v := 1) hx hb dX6_addOne_24 (by decide) ?_
    refine lv_iadd hx hb dX6_addOne_25 ?_
    refine x_put (σ' := (wA, ((uT0 + 1), (upd uT1 uT0.toNatClampNeg (vp_nar .char x1)), uT2, uT3, uT4, uT5, uT6, uT7, uT8), wZ)) hc hw co_236 fX6_9 rfl rfl (Nat.le_of_ble_eq_true rfl) so_T_0 dX6_addOne_26 (fun H locs hw => ?_)
    refine lv_aload_n hx hb dX6_addOne_29 rfl (lv_at hl 0 rfl) ?_
    refine x_get (v := .int (uT0 + 1)) hc hw co_236 fX6_9 rfl dX6_addOne_30 ?_
    cases hf
    exact K _ _ _ _ dX6_addOne_33 rfl hw
def f_X6_empty (uT0 : Int32) : Option Int32 :=
  some 0
set_option maxHeartbeats 4000000 in
set_option maxRecDepth 100000 in
theorem m_X6_empty {l : Launch} {κ : xKt} {wA : Nat → sAcc} {wZ : sRng × sMai × sRef × sOut}  {uT0 : Int32} {uT1 : xF32} {uT2 : Int32} {uT3 : Int32} {uT4 : Int32} {uT5 : xF32} {uT6 : xF32} {uT7 : xF32} {uT8 : xF32} {yT0 : Int32} (hf : f_X6_empty uT0 = some yT0) : xMv l κ yX6_empty cX6_empty 1 none (xR 0 0 0) [.ref (xAd κ 236)] (wA, (uT0, uT1, uT2, uT3, uT4, uT5, uT6, uT7, uT8), wZ) (wA, (yT0, uT1, uT2, uT3, uT4, uT5, uT6, uT7, uT8), wZ) := by
  unfold f_X6_empty at hf
  refine xMv_of pn_X6 (Nat.le_of_ble_eq_true rfl) ⟨rfl, rfl⟩ ?_
  intro A p e s m args below meth c ls Q hc hw hl K
  have hc : xC κ A p s m args meth c cX6_empty RX6 1 none := hc
  have hx := hc.1.1
  have hb := hc.1.2.1
  have hl : lv_has ls 1 [(0, .ref (xAd κ 236))] := hl
  refine lv_aload_n hx hb dX6_empty_0 rfl (lv_at hl 0 rfl) ?_
  refine lv_iconst (v := 0) hx hb dX6_empty_1 (by decide) ?_
  refine x_put (σ' := (wA, (0, uT1, uT2, uT3, uT4, uT5, uT6, uT7, uT8), wZ)) hc hw co_236 fX6_9 rfl rfl (Nat.le_of_ble_eq_true rfl) so_T_0 dX6_empty_2 (fun H locs hw => ?_)
  cases hf
  exact K _ _ _ _ dX6_empty_5 hw
def f_X6_signAhead (uT0 : Int32) (uT1 : xF32) (uT2 : Int32) : Option Int32 :=
  if uT0 ≤ uT2 then (some 0) else (xk (xin uT2 70) (some ((uT1 uT2.toNatClampNeg))))
set_option maxHeartbeats 4000000 in
set_option maxRecDepth 100000 in
theorem m_X6_signAhead {l : Launch} {κ : xKt} {wA : Nat → sAcc} {wZ : sRng × sMai × sRef × sOut}  {uT0 : Int32} {uT1 : xF32} {uT2 : Int32} {uT3 : Int32} {uT4 : Int32} {uT5 : xF32} {uT6 : xF32} {uT7 : xF32} {uT8 : xF32} {rr : Int32} (hf : f_X6_signAhead uT0 uT1 uT2 = some rr) : xMi l κ yX6_signAhead cX6_signAhead 1 (some .int) (xR 0 0 0) [.ref (xAd κ 236)] (wA, (uT0, uT1, uT2, uT3, uT4, uT5, uT6, uT7, uT8), wZ) (wA, (uT0, uT1, uT2, uT3, uT4, uT5, uT6, uT7, uT8), wZ) rr := by
  unfold f_X6_signAhead at hf
  refine xMi_of pn_X6 (Nat.le_of_ble_eq_true rfl) ⟨rfl, rfl⟩ ?_
  intro A p e s m args below meth c ls Q hc hw hl K
  have hc : xC κ A p s m args meth c cX6_signAhead RX6 1 (some .int) := hc
  have hx := hc.1.1
  have hb := hc.1.2.1
  have hl : lv_has ls 1 [(0, .ref (xAd κ 236))] := hl
  refine lv_aload_n hx hb dX6_signAhead_0 rfl (lv_at hl 0 rfl) ?_
  refine x_get (v := .int uT2) hc hw co_236 fX6_19 rfl dX6_signAhead_1 ?_
  refine lv_aload_n hx hb dX6_signAhead_4 rfl (lv_at hl 0 rfl) ?_
  refine x_get (v := .int uT0) hc hw co_236 fX6_9 rfl dX6_signAhead_5 ?_
  refine lv_icmp_ge (tgt := 23) hx hb dX6_signAhead_8 (by decide) (fun c1 => ?_) (fun c1 => ?_)
  · have hf := xif_t c1 hf
    refine lv_iconst (v := 0) hx hb dX6_signAhead_23 (by decide) ?_
    cases hf
    exact K _ _ _ _ dX6_signAhead_24 rfl hw
  · have hf := xif_f c1 hf
    refine lv_aload_n hx hb dX6_signAhead_11 rfl (lv_at hl 0 rfl) ?_
    refine x_get (v := .ref (xAd κ 237)) hc hw co_236 fX6_15 rfl dX6_signAhead_12 ?_
    refine lv_aload_n hx hb dX6_signAhead_15 rfl (lv_at hl 0 rfl) ?_
    refine x_get (v := .int uT2) hc hw co_236 fX6_19 rfl dX6_signAhead_16 ?_
    obtain ⟨k2, hf⟩ := xk_of hf
    refine x_cald (n := 70) (f := uT1) hc hw co_237 k2 dX6_signAhead_19 ?_
    refine lv_goto (tgt := 24) hx hb dX6_signAhead_20 (by decide) ?_
    cases hf
    exact K _ _ _ _ dX6_signAhead_24 rfl hw
def f_X6_isKind (x0 : Int32) : Option Int32 :=
  if x0 = 97 then (some 1) else (if x0 = 99 then (some 1) else (if x0 = 100 then (some 1) else (if x0 = 103 then (some 1) else (if x0 = 110 then (some 1) else (if x0 = 112 then (some 1) else (if x0 = 115 then (some 1) else (if x0 = 119 then (some 1) else (some 0))))))))
set_option maxHeartbeats 4000000 in
set_option maxRecDepth 100000 in
theorem m_X6_isKind {l : Launch} {κ : xKt} {wS : sW}  {x0 : Int32} {rr : Int32} (hf : f_X6_isKind x0 = some rr) : xMi l κ yX6_isKind cX6_isKind 1 (some .boolean) (xR 0 0 0) [.int x0] wS wS rr := by
  unfold f_X6_isKind at hf
  refine xMi_of pn_X6 (Nat.le_of_ble_eq_true rfl) ⟨rfl, rfl⟩ ?_
  intro A p e s m args below meth c ls Q hc hw hl K
  have hc : xC κ A p s m args meth c cX6_isKind RX6 1 (some .boolean) := hc
  have hx := hc.1.1
  have hb := hc.1.2.1
  have hl : lv_has ls 1 [(0, .int x0)] := hl
  refine lv_iload_n hx hb dX6_isKind_0 rfl (lv_at hl 0 rfl) ?_
  by_cases c1 : x0 = 97
  · have hf := xif_t c1 hf
    refine x_tabI (k := 97) (off := 107) (tgt := 108) hx hb dX6_isKind_1 c1 (by decide) (by decide) (by decide) ?_
    refine lv_iconst (v := 1) hx hb dX6_isKind_108 (by decide) ?_
    cases hf
    exact K _ _ _ _ dX6_isKind_109 rfl hw
  have hf := xif_f c1 hf
  by_cases c2 : x0 = 99
  · have hf := xif_t c2 hf
    refine x_tabI (k := 99) (off := 107) (tgt := 108) hx hb dX6_isKind_1 c2 (by decide) (by decide) (by decide) ?_
    refine lv_iconst (v := 1) hx hb dX6_isKind_108 (by decide) ?_
    cases hf
    exact K _ _ _ _ dX6_isKind_109 rfl hw
  have hf := xif_f c2 hf
  by_cases c3 : x0 = 100
  · have hf := xif_t c3 hf
    refine x_tabI (k := 100) (off := 107) (tgt := 108) hx hb dX6_isKind_1 c3 (by decide) (by decide) (by decide) ?_
    refine lv_iconst (v := 1) hx hb dX6_isKind_108 (by decide) ?_
    cases hf
    exact K _ _ _ _ dX6_isKind_109 rfl hw
  have hf := xif_f c3 hf
  by_cases c4 : x0 = 103
  · have hf := xif_t c4 hf
    refine x_tabI (k := 103) (off := 107) (tgt := 108) hx hb dX6_isKind_1 c4 (by decide) (by decide) (by decide) ?_
    refine lv_iconst (v := 1) hx hb dX6_isKind_108 (by decide) ?_
    cases hf
    exact K _ _ _ _ dX6_isKind_109 rfl hw
  have hf := xif_f c4 hf
  by_cases c5 : x0 = 110
  · have hf := xif_t c5 hf
    refine x_tabI (k := 110) (off := 107) (tgt := 108) hx hb dX6_isKind_1 c5 (by decide) (by decide) (by decide) ?_
    refine lv_iconst (v := 1) hx hb dX6_isKind_108 (by decide) ?_
    cases hf
    exact K _ _ _ _ dX6_isKind_109 rfl hw
  have hf := xif_f c5 hf
  by_cases c6 : x0 = 112
  · have hf := xif_t c6 hf
    refine x_tabI (k := 112) (off := 107) (tgt := 108) hx hb dX6_isKind_1 c6 (by decide) (by decide) (by decide) ?_
    refine lv_iconst (v := 1) hx hb dX6_isKind_108 (by decide) ?_
    cases hf
    exact K _ _ _ _ dX6_isKind_109 rfl hw
  have hf := xif_f c6 hf
  by_cases c7 : x0 = 115
  · have hf := xif_t c7 hf
    refine x_tabI (k := 115) (off := 107) (tgt := 108) hx hb dX6_isKind_1 c7 (by decide) (by decide) (by decide) ?_
    refine lv_iconst (v := 1) hx hb dX6_isKind_108 (by decide) ?_
    cases hf
    exact K _ _ _ _ dX6_isKind_109 rfl hw
  have hf := xif_f c7 hf
  by_cases c8 : x0 = 119
  · have hf := xif_t c8 hf
    refine x_tabI (k := 119) (off := 107) (tgt := 108) hx hb dX6_isKind_1 c8 (by decide) (by decide) (by decide) ?_
    refine lv_iconst (v := 1) hx hb dX6_isKind_108 (by decide) ?_
    cases hf
    exact K _ _ _ _ dX6_isKind_109 rfl hw
  have hf := xif_f c8 hf
  have c1 := x_neT (z := 97) c1 (by decide)
  have c2 := x_neT (z := 99) c2 (by decide)
  have c3 := x_neT (z := 100) c3 (by decide)
  have c4 := x_neT (z := 103) c4 (by decide)
  have c5 := x_neT (z := 110) c5 (by decide)
  have c6 := x_neT (z := 112) c6 (by decide)
  have c7 := x_neT (z := 115) c7 (by decide)
  have c8 := x_neT (z := 119) c8 (by decide)
  refine x_tabD (tgt := 110) hx hb dX6_isKind_1 ?_ (by decide) ?_
  · by_cases q1 : x0.toInt < 97
    · exact Or.inl q1
    by_cases q2 : 119 < x0.toInt
    · exact Or.inr (Or.inl q2)
    have q3 : x0.toInt = 98 ∨ x0.toInt = 101 ∨ x0.toInt = 102 ∨ x0.toInt = 104 ∨ x0.toInt = 105 ∨ x0.toInt = 106 ∨ x0.toInt = 107 ∨ x0.toInt = 108 ∨ x0.toInt = 109 ∨ x0.toInt = 111 ∨ x0.toInt = 113 ∨ x0.toInt = 114 ∨ x0.toInt = 116 ∨ x0.toInt = 117 ∨ x0.toInt = 118 := by omega
    refine Or.inr (Or.inr ?_)
    rcases q3 with q3 | q3 | q3 | q3 | q3 | q3 | q3 | q3 | q3 | q3 | q3 | q3 | q3 | q3 | q3 <;> (rw [q3]; decide)
  refine lv_iconst (v := 0) hx hb dX6_isKind_110 (by decide) ?_
  cases hf
  exact K _ _ _ _ dX6_isKind_111 rfl hw
def f_X6_isDigitAhead (uT0 : Int32) (uT1 : xF32) (uT2 : Int32) : Option Int32 :=
  xb1 (f_X6_signAhead uT0 uT1 uT2) fun v1 => (xb1 (f_X7_isWithin v1 48 57) fun v3 => (xk (xisb v3) (some v3)))
set_option maxHeartbeats 4000000 in
set_option maxRecDepth 100000 in
theorem m_X6_isDigitAhead {l : Launch} {κ : xKt} {wA : Nat → sAcc} {wZ : sRng × sMai × sRef × sOut}  {uT0 : Int32} {uT1 : xF32} {uT2 : Int32} {uT3 : Int32} {uT4 : Int32} {uT5 : xF32} {uT6 : xF32} {uT7 : xF32} {uT8 : xF32} {rr : Int32} (hf : f_X6_isDigitAhead uT0 uT1 uT2 = some rr) : xMi l κ yX6_isDigitAhead cX6_isDigitAhead 1 (some .boolean) (xR 1 0 0) [.ref (xAd κ 236)] (wA, (uT0, uT1, uT2, uT3, uT4, uT5, uT6, uT7, uT8), wZ) (wA, (uT0, uT1, uT2, uT3, uT4, uT5, uT6, uT7, uT8), wZ) rr := by
  unfold f_X6_isDigitAhead at hf
  refine xMi_of pn_X6 (Nat.le_of_ble_eq_true rfl) ⟨rfl, rfl⟩ ?_
  intro A p e s m args below meth c ls Q hc hw hl K
  have hc : xC κ A p s m args meth c cX6_isDigitAhead RX6 1 (some .boolean) := hc
  have hx := hc.1.1
  have hb := hc.1.2.1
  have hl : lv_has ls 1 [(0, .ref (xAd κ 236))] := hl
  refine lv_aload_n hx hb dX6_isDigitAhead_0 rfl (lv_at hl 0 rfl) ?_
  obtain ⟨v1, h2, hf⟩ := xb1_of hf
  refine x_calliV (As := []) (rest := []) (σ' := (wA, (uT0, uT1, uT2, uT3, uT4, uT5, uT6, uT7, uT8), wZ)) hc hw hl.1 (m_X6_signAhead h2) kX6_46 co_236 rfl rfl ⟨rfl, rfl⟩ ⟨Nat.le_of_ble_eq_true rfl, Nat.le_of_ble_eq_true rfl⟩ ⟨Nat.zero_le _, Nat.zero_le _⟩ (Nat.le_of_ble_eq_true rfl) dX6_isDigitAhead_1 (fun H locs hw => ?_)
  refine lv_bipush (v := 48) hx hb dX6_isDigitAhead_4 (by decide) ?_
  refine lv_bipush (v := 57) hx hb dX6_isDigitAhead_6 (by decide) ?_
  obtain ⟨v3, h4, hf⟩ := xb1_of hf
  refine x_calliN (As := [.int v1, .int 48, .int 57]) (rest := []) (σ' := (wA, (uT0, uT1, uT2, uT3, uT4, uT5, uT6, uT7, uT8), wZ)) hc hw hl.1 (m_X7_isWithin h4) kX6_61 rfl rfl ⟨rfl, rfl⟩ ⟨Nat.le_of_ble_eq_true rfl, Nat.le_of_ble_eq_true rfl⟩ ⟨Nat.zero_le _, Nat.zero_le _⟩ (Nat.le_of_ble_eq_true rfl) dX6_isDigitAhead_8 (fun H locs hw => ?_)
  obtain ⟨k5, hf⟩ := xk_of hf
  cases hf
  exact K _ _ _ _ dX6_isDigitAhead_11 (xisb_n k5).1 hw
def f_X6_takeNumber_21 (fu : Nat) (uT0 : Int32) (uT1 : xF32) : Nat → (Int32) → (Int32) → (Int32) → (Int32) → (Int32) → Option (Int32 × Int32 × Int32)
  | 0, _, _, _, _, _ => none
  | n + 1, x1, x2, x3, uT2, uT3 => if x1 ≤ x3 then (some (x2, uT2, uT3)) else (xb1 (f_X6_isDigitAhead uT0 uT1 uT2) fun v6 => (if v6 = 0 then (some (x2, uT2, uT3)) else (xb1 (f_X6_signAhead uT0 uT1 uT2) fun v9 => (f_X6_takeNumber_21 fu uT0 uT1 n x1 (((x2 * 10) + v9) - 48) (x3 + 1) (uT2 + 1) uT3))))
def f_X6_takeNumber (fu : Nat) (x1 : Int32) (uT0 : Int32) (uT1 : xF32) (uT2 : Int32) (uT3 : Int32) : Option (Int32 × Int32 × Int32) :=
  if uT3 = 0 then (some (0, uT2, uT3)) else (xb1 (f_X6_isDigitAhead uT0 uT1 uT2) fun v2 => (xk (xisb v2) (f_X6_takeNumber_21 fu uT0 uT1 fu x1 0 0 uT2 v2)))
set_option maxHeartbeats 4000000 in
set_option maxRecDepth 100000 in
theorem l_X6_takeNumber_21 {l : Launch} {κ : xKt} {wA : Nat → sAcc} {wZ : sRng × sMai × sRef × sOut} {fu : Nat} {uT0 : Int32} {uT1 : xF32} {uT4 : Int32} {uT5 : xF32} {uT6 : xF32} {uT7 : xF32} {uT8 : xF32} {A : Nat → Prop} {p : Program} {e : Env} {s : State} {m : MethodId} {args : Array Value} {below : List Frame} {meth : Method} {c : Code} {Q : State → Prop} {rr : Int32} {yT2 : Int32} {yT3 : Int32}
    (hc : xC κ A p s m args meth c cX6_takeNumber RX6 4 (some .int))
    (K : ∀ (pc : Nat) (ls : Array Slot) (H : Heap) (locs : List Loc), decode cX6_takeNumber pc = .ok (.ireturn, 1) → narrow .int (.int rr) = .int rr → xW κ A s (wA, (uT0, uT1, yT2, yT3, uT4, uT5, uT6, uT7, uT8), wZ) H locs → W p l e (xR 2 0 0) s m args below meth c H locs 0 0 Q (F0 m pc ls [.int rr])) :
    ∀ (n : Nat) (x1 : Int32) (x2 : Int32) (x3 : Int32) (uT2 : Int32) (uT3 : Int32) (H : Heap) (locs : List Loc) (ls : Array Slot), f_X6_takeNumber_21 fu uT0 uT1 n x1 x2 x3 uT2 uT3 = some (rr, yT2, yT3) → xW κ A s (wA, (uT0, uT1, uT2, uT3, uT4, uT5, uT6, uT7, uT8), wZ) H locs → lv_has ls 4 [(0, .ref (xAd κ 236)), (1, .int x1), (2, .int x2), (3, .int x3)] → W p l e (xR 2 0 0) s m args below meth c H locs 0 0 Q (F0 m 21 ls []) := by
  have hx := hc.1.1
  have hb := hc.1.2.1
  intro n
  induction n with
  | zero =>
    intro x1 x2 x3 uT2 uT3 H locs ls hf
    rw [f_X6_takeNumber_21] at hf
    cases hf
  | succ n hi =>
    intro x1 x2 x3 uT2 uT3 H locs ls hf hw hl
    rw [f_X6_takeNumber_21] at hf
    refine lv_iload_n hx hb dX6_takeNumber_21 rfl (lv_at hl 3 rfl) ?_
    refine lv_iload_n hx hb dX6_takeNumber_22 rfl (lv_at hl 1 rfl) ?_
    refine lv_icmp_ge (tgt := 62) hx hb dX6_takeNumber_23 (by decide) (fun c5 => ?_) (fun c5 => ?_)
    · have hf := xif_t c5 hf
      refine lv_iload_n hx hb dX6_takeNumber_62 rfl (lv_at hl 2 rfl) ?_
      cases hf
      exact K _ _ _ _ dX6_takeNumber_63 rfl hw
    · have hf := xif_f c5 hf
      refine lv_aload_n hx hb dX6_takeNumber_26 rfl (lv_at hl 0 rfl) ?_
      obtain ⟨v6, h7, hf⟩ := xb1_of hf
      refine x_calliV (As := []) (rest := []) (σ' := (wA, (uT0, uT1, uT2, uT3, uT4, uT5, uT6, uT7, uT8), wZ)) hc hw hl.1 (m_X6_isDigitAhead h7) kX6_65 co_236 rfl rfl ⟨rfl, rfl⟩ ⟨Nat.le_of_ble_eq_true rfl, Nat.le_of_ble_eq_true rfl⟩ ⟨Nat.zero_le _, Nat.zero_le _⟩ (Nat.le_of_ble_eq_true rfl) dX6_takeNumber_27 (fun H locs hw => ?_)
      refine lv_if_eq (tgt := 62) hx hb dX6_takeNumber_30 (by decide) (fun c8 => ?_) (fun c8 => ?_)
      · have hf := xif_t c8 hf
        refine lv_iload_n hx hb dX6_takeNumber_62 rfl (lv_at hl 2 rfl) ?_
        cases hf
        exact K _ _ _ _ dX6_takeNumber_63 rfl hw
      · have hf := xif_f c8 hf
        refine lv_iload_n hx hb dX6_takeNumber_33 rfl (lv_at hl 2 rfl) ?_
        refine lv_bipush (v := 10) hx hb dX6_takeNumber_34 (by decide) ?_
        refine lv_imul hx hb dX6_takeNumber_36 ?_
        refine lv_aload_n hx hb dX6_takeNumber_37 rfl (lv_at hl 0 rfl) ?_
        obtain ⟨v9, h10, hf⟩ := xb1_of hf
        refine x_calliV (As := []) (rest := [.int (x2 * 10)]) (σ' := (wA, (uT0, uT1, uT2, uT3, uT4, uT5, uT6, uT7, uT8), wZ)) hc hw hl.1 (m_X6_signAhead h10) kX6_46 co_236 rfl rfl ⟨rfl, rfl⟩ ⟨Nat.le_of_ble_eq_true rfl, Nat.le_of_ble_eq_true rfl⟩ ⟨Nat.zero_le _, Nat.zero_le _⟩ (Nat.le_of_ble_eq_true rfl) dX6_takeNumber_38 (fun H locs hw => ?_)
        refine lv_iadd hx hb dX6_takeNumber_41 ?_
        refine lv_bipush (v := 48) hx hb dX6_takeNumber_42 (by decide) ?_
        refine lv_isub hx hb dX6_takeNumber_44 ?_
        refine lv_istore_n (lv' := [(2, .int (((x2 * 10) + v9) - 48)), (0, .ref (xAd κ 236)), (1, .int x1), (3, .int x3)]) hx hb dX6_takeNumber_45 rfl hl (by decide) rfl (fun ls hl => ?_)
        refine lv_aload_n hx hb dX6_takeNumber_46 rfl (lv_at hl 1 rfl) ?_
        refine lv_dup hx hb dX6_takeNumber_47 rfl ?_
        refine x_get (v := .int uT2) hc hw co_236 fX6_19 rfl dX6_takeNumber_48 ?_
        refine lv_iconst (v := 1) hx hb dX6_takeNumber_51 (by decide) ?_
        refine lv_iadd hx hb dX6_takeNumber_52 ?_
        refine x_put (σ' := (wA, (uT0, uT1, (uT2 + 1), uT3, uT4, uT5, uT6, uT7, uT8), wZ)) hc hw co_236 fX6_19 rfl rfl (Nat.le_of_ble_eq_true rfl) so_T_2 dX6_takeNumber_53 (fun H locs hw => ?_)
        refine lv_iinc (v := (x3 + 1)) (lv' := [(3, .int (x3 + 1)), (2, .int (((x2 * 10) + v9) - 48)), (0, .ref (xAd κ 236)), (1, .int x1)]) hx hb dX6_takeNumber_56 hl (k := 3) rfl rfl (by decide) rfl (fun ls hl => ?_)
        refine lv_goto (tgt := 21) hx hb dX6_takeNumber_59 (by decide) ?_
        exact hi _ _ _ _ _ _ _ _ hf hw (lv_sub hl [2, 3, 1, 0] rfl)
set_option maxHeartbeats 4000000 in
set_option maxRecDepth 100000 in
theorem m_X6_takeNumber {l : Launch} {κ : xKt} {wA : Nat → sAcc} {wZ : sRng × sMai × sRef × sOut} {fu : Nat} {x1 : Int32} {uT0 : Int32} {uT1 : xF32} {uT2 : Int32} {uT3 : Int32} {uT4 : Int32} {uT5 : xF32} {uT6 : xF32} {uT7 : xF32} {uT8 : xF32} {rr : Int32} {yT2 : Int32} {yT3 : Int32} (hf : f_X6_takeNumber fu x1 uT0 uT1 uT2 uT3 = some (rr, yT2, yT3)) : xMi l κ yX6_takeNumber cX6_takeNumber 4 (some .int) (xR 2 0 0) [.ref (xAd κ 236), .int x1] (wA, (uT0, uT1, uT2, uT3, uT4, uT5, uT6, uT7, uT8), wZ) (wA, (uT0, uT1, yT2, yT3, uT4, uT5, uT6, uT7, uT8), wZ) rr := by
  unfold f_X6_takeNumber at hf
  refine xMi_of pn_X6 (Nat.le_of_ble_eq_true rfl) ⟨rfl, rfl⟩ ?_
  intro A p e s m args below meth c ls Q hc hw hl K
  have hc : xC κ A p s m args meth c cX6_takeNumber RX6 4 (some .int) := hc
  have hx := hc.1.1
  have hb := hc.1.2.1
  have hl : lv_has ls 4 [(0, .ref (xAd κ 236)), (1, .int x1)] := hl
  refine lv_aload_n hx hb dX6_takeNumber_0 rfl (lv_at hl 0 rfl) ?_
  refine x_get (v := .int uT3) hc hw co_236 fX6_22 rfl dX6_takeNumber_1 ?_
  refine lv_if_ne (tgt := 9) hx hb dX6_takeNumber_4 (by decide) (fun c1 => ?_) (fun c1 => ?_)
  · have hf := xif_f c1 hf
    refine lv_aload_n hx hb dX6_takeNumber_9 rfl (lv_at hl 0 rfl) ?_
    refine lv_aload_n hx hb dX6_takeNumber_10 rfl (lv_at hl 0 rfl) ?_
    obtain ⟨v2, h3, hf⟩ := xb1_of hf
    refine x_calliV (As := []) (rest := [.ref (xAd κ 236)]) (σ' := (wA, (uT0, uT1, uT2, uT3, uT4, uT5, uT6, uT7, uT8), wZ)) hc hw hl.1 (m_X6_isDigitAhead h3) kX6_65 co_236 rfl rfl ⟨rfl, rfl⟩ ⟨Nat.le_of_ble_eq_true rfl, Nat.le_of_ble_eq_true rfl⟩ ⟨Nat.zero_le _, Nat.zero_le _⟩ (Nat.le_of_ble_eq_true rfl) dX6_takeNumber_11 (fun H locs hw => ?_)
    obtain ⟨k4, hf⟩ := xk_of hf
    refine x_put (σ' := (wA, (uT0, uT1, uT2, v2, uT4, uT5, uT6, uT7, uT8), wZ)) hc hw co_236 fX6_22 (xisb_n k4).1 (xisb_n k4).2 (Nat.le_of_ble_eq_true rfl) so_T_3 dX6_takeNumber_14 (fun H locs hw => ?_)
    refine lv_iconst (v := 0) hx hb dX6_takeNumber_17 (by decide) ?_
    refine lv_istore_n (lv' := [(2, .int 0), (0, .ref (xAd κ 236)), (1, .int x1)]) hx hb dX6_takeNumber_18 rfl hl (by decide) rfl (fun ls hl => ?_)
    refine lv_iconst (v := 0) hx hb dX6_takeNumber_19 (by decide) ?_
    refine lv_istore_n (lv' := [(3, .int 0), (2, .int 0), (0, .ref (xAd κ 236)), (1, .int x1)]) hx hb dX6_takeNumber_20 rfl hl (by decide) rfl (fun ls hl => ?_)
    exact l_X6_takeNumber_21 hc K fu _ _ _ _ _ _ _ _ hf hw (lv_sub hl [2, 3, 1, 0] rfl)
  · have hf := xif_t c1 hf
    refine lv_iconst (v := 0) hx hb dX6_takeNumber_7 (by decide) ?_
    cases hf
    exact K _ _ _ _ dX6_takeNumber_8 rfl hw
def f_X6_takeSign (x1 : Int32) (uT0 : Int32) (uT1 : xF32) (uT2 : Int32) (uT3 : Int32) : Option (Int32 × Int32) :=
  if uT3 = 0 then (some (uT2, uT3)) else (xb1 (f_X6_signAhead uT0 uT1 uT2) fun v2 => (if v2 = x1 then (some ((uT2 + 1), 1)) else (some ((uT2 + 0), 0))))
set_option maxHeartbeats 4000000 in
set_option maxRecDepth 100000 in
theorem m_X6_takeSign {l : Launch} {κ : xKt} {wA : Nat → sAcc} {wZ : sRng × sMai × sRef × sOut}  {x1 : Int32} {uT0 : Int32} {uT1 : xF32} {uT2 : Int32} {uT3 : Int32} {uT4 : Int32} {uT5 : xF32} {uT6 : xF32} {uT7 : xF32} {uT8 : xF32} {yT2 : Int32} {yT3 : Int32} (hf : f_X6_takeSign x1 uT0 uT1 uT2 uT3 = some (yT2, yT3)) : xMv l κ yX6_takeSign cX6_takeSign 2 none (xR 1 0 0) [.ref (xAd κ 236), .int x1] (wA, (uT0, uT1, uT2, uT3, uT4, uT5, uT6, uT7, uT8), wZ) (wA, (uT0, uT1, yT2, yT3, uT4, uT5, uT6, uT7, uT8), wZ) := by
  unfold f_X6_takeSign at hf
  refine xMv_of pn_X6 (Nat.le_of_ble_eq_true rfl) ⟨rfl, rfl⟩ ?_
  intro A p e s m args below meth c ls Q hc hw hl K
  have hc : xC κ A p s m args meth c cX6_takeSign RX6 2 none := hc
  have hx := hc.1.1
  have hb := hc.1.2.1
  have hl : lv_has ls 2 [(0, .ref (xAd κ 236)), (1, .int x1)] := hl
  refine lv_aload_n hx hb dX6_takeSign_0 rfl (lv_at hl 0 rfl) ?_
  refine x_get (v := .int uT3) hc hw co_236 fX6_22 rfl dX6_takeSign_1 ?_
  refine lv_if_ne (tgt := 8) hx hb dX6_takeSign_4 (by decide) (fun c1 => ?_) (fun c1 => ?_)
  · have hf := xif_f c1 hf
    refine lv_aload_n hx hb dX6_takeSign_8 rfl (lv_at hl 0 rfl) ?_
    refine lv_aload_n hx hb dX6_takeSign_9 rfl (lv_at hl 0 rfl) ?_
    obtain ⟨v2, h3, hf⟩ := xb1_of hf
    refine x_calliV (As := []) (rest := [.ref (xAd κ 236)]) (σ' := (wA, (uT0, uT1, uT2, uT3, uT4, uT5, uT6, uT7, uT8), wZ)) hc hw hl.1 (m_X6_signAhead h3) kX6_46 co_236 rfl rfl ⟨rfl, rfl⟩ ⟨Nat.le_of_ble_eq_true rfl, Nat.le_of_ble_eq_true rfl⟩ ⟨Nat.zero_le _, Nat.zero_le _⟩ (Nat.le_of_ble_eq_true rfl) dX6_takeSign_10 (fun H locs hw => ?_)
    refine lv_iload_n hx hb dX6_takeSign_13 rfl (lv_at hl 1 rfl) ?_
    refine lv_icmp_ne (tgt := 21) hx hb dX6_takeSign_14 (by decide) (fun c4 => ?_) (fun c4 => ?_)
    · have hf := xif_f c4 hf
      refine lv_iconst (v := 0) hx hb dX6_takeSign_21 (by decide) ?_
      refine x_put (σ' := (wA, (uT0, uT1, uT2, 0, uT4, uT5, uT6, uT7, uT8), wZ)) hc hw co_236 fX6_22 rfl rfl (Nat.le_of_ble_eq_true rfl) so_T_3 dX6_takeSign_22 (fun H locs hw => ?_)
      refine lv_aload_n hx hb dX6_takeSign_25 rfl (lv_at hl 0 rfl) ?_
      refine lv_dup hx hb dX6_takeSign_26 rfl ?_
      refine x_get (v := .int uT2) hc hw co_236 fX6_19 rfl dX6_takeSign_27 ?_
      refine lv_aload_n hx hb dX6_takeSign_30 rfl (lv_at hl 0 rfl) ?_
      refine x_get (v := .int 0) hc hw co_236 fX6_22 rfl dX6_takeSign_31 ?_
      refine lv_if_eq (tgt := 41) hx hb dX6_takeSign_34 (by decide) (fun _ => ?_) (fun q => absurd q (by decide))
      refine lv_iconst (v := 0) hx hb dX6_takeSign_41 (by decide) ?_
      refine lv_iadd hx hb dX6_takeSign_42 ?_
      refine x_put (σ' := (wA, (uT0, uT1, (uT2 + 0), 0, uT4, uT5, uT6, uT7, uT8), wZ)) hc hw co_236 fX6_19 rfl rfl (Nat.le_of_ble_eq_true rfl) so_T_2 dX6_takeSign_43 (fun H locs hw => ?_)
      cases hf
      exact K _ _ _ _ dX6_takeSign_46 hw
    · have hf := xif_t c4 hf
      refine lv_iconst (v := 1) hx hb dX6_takeSign_17 (by decide) ?_
      refine lv_goto (tgt := 22) hx hb dX6_takeSign_18 (by decide) ?_
      refine x_put (σ' := (wA, (uT0, uT1, uT2, 1, uT4, uT5, uT6, uT7, uT8), wZ)) hc hw co_236 fX6_22 rfl rfl (Nat.le_of_ble_eq_true rfl) so_T_3 dX6_takeSign_22 (fun H locs hw => ?_)
      refine lv_aload_n hx hb dX6_takeSign_25 rfl (lv_at hl 0 rfl) ?_
      refine lv_dup hx hb dX6_takeSign_26 rfl ?_
      refine x_get (v := .int uT2) hc hw co_236 fX6_19 rfl dX6_takeSign_27 ?_
      refine lv_aload_n hx hb dX6_takeSign_30 rfl (lv_at hl 0 rfl) ?_
      refine x_get (v := .int 1) hc hw co_236 fX6_22 rfl dX6_takeSign_31 ?_
      refine lv_if_eq (tgt := 41) hx hb dX6_takeSign_34 (by decide) (fun q => absurd q (by decide)) (fun _ => ?_)
      refine lv_iconst (v := 1) hx hb dX6_takeSign_37 (by decide) ?_
      refine lv_goto (tgt := 42) hx hb dX6_takeSign_38 (by decide) ?_
      refine lv_iadd hx hb dX6_takeSign_42 ?_
      refine x_put (σ' := (wA, (uT0, uT1, (uT2 + 1), 1, uT4, uT5, uT6, uT7, uT8), wZ)) hc hw co_236 fX6_19 rfl rfl (Nat.le_of_ble_eq_true rfl) so_T_2 dX6_takeSign_43 (fun H locs hw => ?_)
      cases hf
      exact K _ _ _ _ dX6_takeSign_46 hw
  · have hf := xif_t c1 hf
    cases hf
    exact K _ _ _ _ dX6_takeSign_7 hw
def j_X6_parseCommand_133 (fu : Nat) (uT0 : Int32) (uT1 : xF32) (uT2 : Int32) (uT3 : Int32) (uT5 : xF32) (uT6 : xF32) (uT7 : xF32) (uT8 : xF32) : Option (Int32 × Int32 × xF32 × xF32 × xF32 × xF32) :=
  xb2 (f_X6_takeSign 59 uT0 uT1 uT2 uT3) fun uT2_18 uT3_19 => (some (uT2_18, uT3_19, uT5, uT6, uT7, uT8))
def j_X6_parseCommand_103 (fu : Nat) (uT0 : Int32) (uT1 : xF32) (x1 : Int32) (x2 : Int32) (uT2 : Int32) (uT3 : Int32) (uT5 : xF32) (uT6 : xF32) (uT7 : xF32) (uT8 : xF32) : Option (Int32 × Int32 × xF32 × xF32 × xF32 × xF32) :=
  if x2 = 103 then (j_X6_parseCommand_133 fu uT0 uT1 uT2 uT3 uT5 uT6 uT7 uT8) else (if x2 = 110 then (j_X6_parseCommand_133 fu uT0 uT1 uT2 uT3 uT5 uT6 uT7 uT8) else (xb2 (f_X6_takeSign 58 uT0 uT1 uT2 uT3) fun uT2_22 uT3_23 => (xb3 (f_X6_takeNumber fu 9 uT0 uT1 uT2_22 uT3_23) fun v25 uT2_26 uT3_27 => (xk (xin x1 35) (j_X6_parseCommand_133 fu uT0 uT1 uT2_26 uT3_27 uT5 uT6 uT7 (upd uT8 x1.toNatClampNeg v25))))))
def j_X6_parseCommand_86 (fu : Nat) (uT0 : Int32) (uT1 : xF32) (x1 : Int32) (x2 : Int32) (uT2 : Int32) (uT3 : Int32) (uT5 : xF32) (uT6 : xF32) (uT7 : xF32) (uT8 : xF32) : Option (Int32 × Int32 × xF32 × xF32 × xF32 × xF32) :=
  xb2 (f_X6_takeSign 62 uT0 uT1 uT2 uT3) fun uT2_9 uT3_10 => (xb3 (f_X6_takeNumber fu 1 uT0 uT1 uT2_9 uT3_10) fun v12 uT2_13 uT3_14 => (xk (xin x1 35) (j_X6_parseCommand_103 fu uT0 uT1 x1 x2 uT2_13 uT3_14 uT5 uT6 (upd uT7 x1.toNatClampNeg v12) uT8)))
def j_X6_parseCommand_74 (fu : Nat) (uT0 : Int32) (uT1 : xF32) (x1 : Int32) (x2 : Int32) (uT2 : Int32) (uT3 : Int32) (uT5 : xF32) (uT6 : xF32) (uT7 : xF32) (uT8 : xF32) : Option (Int32 × Int32 × xF32 × xF32 × xF32 × xF32) :=
  if x2 = 99 then (j_X6_parseCommand_86 fu uT0 uT1 x1 x2 uT2 uT3 uT5 uT6 uT7 uT8) else (if x2 = 115 then (j_X6_parseCommand_86 fu uT0 uT1 x1 x2 uT2 uT3 uT5 uT6 uT7 uT8) else (j_X6_parseCommand_103 fu uT0 uT1 x1 x2 uT2 uT3 uT5 uT6 uT7 uT8))
def f_X6_parseCommand (fu : Nat) (x1 : Int32) (uT0 : Int32) (uT1 : xF32) (uT2 : Int32) (uT3 : Int32) (uT5 : xF32) (uT6 : xF32) (uT7 : xF32) (uT8 : xF32) : Option (Int32 × Int32 × xF32 × xF32 × xF32 × xF32) :=
  xb1 (f_X6_signAhead uT0 uT1 uT2) fun v1 => (xk (xin x1 35) (xb1 (f_X6_isKind v1) fun v4 => (if v4 = 0 then (some (uT2, 0, (upd uT5 x1.toNatClampNeg v1), uT6, uT7, uT8)) else (if v1 = 103 then (j_X6_parseCommand_74 fu uT0 uT1 x1 v1 (uT2 + 1) uT3 (upd uT5 x1.toNatClampNeg v1) uT6 uT7 uT8) else (if v1 = 99 then (xb3 (f_X6_takeNumber fu 1 uT0 uT1 (uT2 + 1) uT3) fun v32 uT2_33 uT3_34 => (xk (xin x1 35) (j_X6_parseCommand_74 fu uT0 uT1 x1 v1 uT2_33 uT3_34 (upd uT5 x1.toNatClampNeg v1) (upd uT6 x1.toNatClampNeg v32) uT7 uT8))) else (if v1 = 115 then (xb3 (f_X6_takeNumber fu 1 uT0 uT1 (uT2 + 1) uT3) fun v38 uT2_39 uT3_40 => (xk (xin x1 35) (j_X6_parseCommand_74 fu uT0 uT1 x1 v1 uT2_39 uT3_40 (upd uT5 x1.toNatClampNeg v1) (upd uT6 x1.toNatClampNeg v38) uT7 uT8))) else (if v1 = 112 then (xb3 (f_X6_takeNumber fu 1 uT0 uT1 (uT2 + 1) uT3) fun v49 uT2_50 uT3_51 => (xk (xin x1 35) (j_X6_parseCommand_74 fu uT0 uT1 x1 v1 uT2_50 uT3_51 (upd uT5 x1.toNatClampNeg v1) (upd uT6 x1.toNatClampNeg v49) uT7 uT8))) else (xb3 (f_X6_takeNumber fu 3 uT0 uT1 (uT2 + 1) uT3) fun v44 uT2_45 uT3_46 => (xk (xin x1 35) (j_X6_parseCommand_74 fu uT0 uT1 x1 v1 uT2_45 uT3_46 (upd uT5 x1.toNatClampNeg v1) (upd uT6 x1.toNatClampNeg v44) uT7 uT8))))))))))
set_option maxHeartbeats 4000000 in
set_option maxRecDepth 100000 in
theorem jl_X6_parseCommand_133 {l : Launch} {κ : xKt} {wA : Nat → sAcc} {wZ : sRng × sMai × sRef × sOut} {fu : Nat} {uT0 : Int32} {uT1 : xF32} {uT4 : Int32} {yT2 : Int32} {yT3 : Int32} {yT5 : xF32} {yT6 : xF32} {yT7 : xF32} {yT8 : xF32} {A : Nat → Prop} {p : Program} {e : Env} {s : State} {m : MethodId} {args : Array Value} {below : List Frame} {meth : Method} {c : Code} {Q : State → Prop}
    (hc : xC κ A p s m args meth c cX6_parseCommand RX6 3 none)
    (K : ∀ (pc : Nat) (ls : Array Slot) (H : Heap) (locs : List Loc), decode cX6_parseCommand pc = .ok (.return_, 1) → xW κ A s (wA, (uT0, uT1, yT2, yT3, uT4, yT5, yT6, yT7, yT8), wZ) H locs → W p l e (xR 3 0 0) s m args below meth c H locs 0 0 Q (F0 m pc ls [])) :
    ∀ (uT2 : Int32) (uT3 : Int32) (uT5 : xF32) (uT6 : xF32) (uT7 : xF32) (uT8 : xF32) (H : Heap) (locs : List Loc) (ls : Array Slot), j_X6_parseCommand_133 fu uT0 uT1 uT2 uT3 uT5 uT6 uT7 uT8 = some (yT2, yT3, yT5, yT6, yT7, yT8) → xW κ A s (wA, (uT0, uT1, uT2, uT3, uT4, uT5, uT6, uT7, uT8), wZ) H locs → lv_has ls 3 [(0, .ref (xAd κ 236))] → W p l e (xR 3 0 0) s m args below meth c H locs 0 0 Q (F0 m 133 ls []) := by
  have hx := hc.1.1
  have hb := hc.1.2.1
  intro uT2 uT3 uT5 uT6 uT7 uT8 H locs ls hf hw hl
  unfold j_X6_parseCommand_133 at hf
  refine lv_aload_n hx hb dX6_parseCommand_133 rfl (lv_at hl 0 rfl) ?_
  refine lv_bipush (v := 59) hx hb dX6_parseCommand_134 (by decide) ?_
  obtain ⟨uT2_18, uT3_19, h20, hf⟩ := xb2_of hf
  refine x_callvV (As := [.int 59]) (rest := []) (σ' := (wA, (uT0, uT1, uT2_18, uT3_19, uT4, uT5, uT6, uT7, uT8), wZ)) hc hw hl.1 (m_X6_takeSign h20) kX6_58 co_236 rfl rfl ⟨rfl, rfl⟩ ⟨Nat.le_of_ble_eq_true rfl, Nat.le_of_ble_eq_true rfl⟩ ⟨Nat.zero_le _, Nat.zero_le _⟩ (Nat.le_of_ble_eq_true rfl) dX6_parseCommand_136 (fun H locs hw => ?_)
  cases hf
  exact K _ _ _ _ dX6_parseCommand_139 hw
set_option maxHeartbeats 4000000 in
set_option maxRecDepth 100000 in
theorem jl_X6_parseCommand_103 {l : Launch} {κ : xKt} {wA : Nat → sAcc} {wZ : sRng × sMai × sRef × sOut} {fu : Nat} {uT0 : Int32} {uT1 : xF32} {uT4 : Int32} {yT2 : Int32} {yT3 : Int32} {yT5 : xF32} {yT6 : xF32} {yT7 : xF32} {yT8 : xF32} {A : Nat → Prop} {p : Program} {e : Env} {s : State} {m : MethodId} {args : Array Value} {below : List Frame} {meth : Method} {c : Code} {Q : State → Prop}
    (hc : xC κ A p s m args meth c cX6_parseCommand RX6 3 none)
    (K : ∀ (pc : Nat) (ls : Array Slot) (H : Heap) (locs : List Loc), decode cX6_parseCommand pc = .ok (.return_, 1) → xW κ A s (wA, (uT0, uT1, yT2, yT3, uT4, yT5, yT6, yT7, yT8), wZ) H locs → W p l e (xR 3 0 0) s m args below meth c H locs 0 0 Q (F0 m pc ls [])) :
    ∀ (x1 : Int32) (x2 : Int32) (uT2 : Int32) (uT3 : Int32) (uT5 : xF32) (uT6 : xF32) (uT7 : xF32) (uT8 : xF32) (H : Heap) (locs : List Loc) (ls : Array Slot), j_X6_parseCommand_103 fu uT0 uT1 x1 x2 uT2 uT3 uT5 uT6 uT7 uT8 = some (yT2, yT3, yT5, yT6, yT7, yT8) → xW κ A s (wA, (uT0, uT1, uT2, uT3, uT4, uT5, uT6, uT7, uT8), wZ) H locs → lv_has ls 3 [(0, .ref (xAd κ 236)), (1, .int x1), (2, .int x2)] → W p l e (xR 3 0 0) s m args below meth c H locs 0 0 Q (F0 m 103 ls []) := by
  have hx := hc.1.1
  have hb := hc.1.2.1
  intro x1 x2 uT2 uT3 uT5 uT6 uT7 uT8 H locs ls hf hw hl
  unfold j_X6_parseCommand_103 at hf
  refine lv_iload_n hx hb dX6_parseCommand_103 rfl (lv_at hl 2 rfl) ?_
  refine lv_bipush (v := 103) hx hb dX6_parseCommand_104 (by decide) ?_
  refine lv_icmp_eq (tgt := 133) hx hb dX6_parseCommand_106 (by decide) (fun c17 => ?_) (fun c17 => ?_)
  · have hf := xif_t c17 hf
    exact jl_X6_parseCommand_133 hc K _ _ _ _ _ _ _ _ _ hf hw (lv_sub hl [0] rfl)
  · have hf := xif_f c17 hf
    refine lv_iload_n hx hb dX6_parseCommand_109 rfl (lv_at hl 2 rfl) ?_
    refine lv_bipush (v := 110) hx hb dX6_parseCommand_110 (by decide) ?_
    refine lv_icmp_eq (tgt := 133) hx hb dX6_parseCommand_112 (by decide) (fun c21 => ?_) (fun c21 => ?_)
    · have hf := xif_t c21 hf
      exact jl_X6_parseCommand_133 hc K _ _ _ _ _ _ _ _ _ hf hw (lv_sub hl [0] rfl)
    · have hf := xif_f c21 hf
      refine lv_aload_n hx hb dX6_parseCommand_115 rfl (lv_at hl 0 rfl) ?_
      refine lv_bipush (v := 58) hx hb dX6_parseCommand_116 (by decide) ?_
      obtain ⟨uT2_22, uT3_23, h24, hf⟩ := xb2_of hf
      refine x_callvV (As := [.int 58]) (rest := []) (σ' := (wA, (uT0, uT1, uT2_22, uT3_23, uT4, uT5, uT6, uT7, uT8), wZ)) hc hw hl.1 (m_X6_takeSign h24) kX6_58 co_236 rfl rfl ⟨rfl, rfl⟩ ⟨Nat.le_of_ble_eq_true rfl, Nat.le_of_ble_eq_true rfl⟩ ⟨Nat.zero_le _, Nat.zero_le _⟩ (Nat.le_of_ble_eq_true rfl) dX6_parseCommand_118 (fun H locs hw => ?_)
      refine lv_aload_n hx hb dX6_parseCommand_121 rfl (lv_at hl 0 rfl) ?_
      refine x_get (v := .ref (xAd κ 241)) hc hw co_236 fX6_39 rfl dX6_parseCommand_122 ?_
      refine lv_iload_n hx hb dX6_parseCommand_125 rfl (lv_at hl 1 rfl) ?_
      refine lv_aload_n hx hb dX6_parseCommand_126 rfl (lv_at hl 0 rfl) ?_
      refine lv_bipush (v := 9) hx hb dX6_parseCommand_127 (by decide) ?_
      obtain ⟨v25, uT2_26, uT3_27, h28, hf⟩ := xb3_of hf
      refine x_calliV (As := [.int 9]) (rest := [.int x1, .ref (xAd κ 241)]) (σ' := (wA, (uT0, uT1, uT2_26, uT3_27, uT4, uT5, uT6, uT7, uT8), wZ)) hc hw hl.1 (m_X6_takeNumber h28) kX6_54 co_236 rfl rfl ⟨rfl, rfl⟩ ⟨Nat.le_of_ble_eq_true rfl, Nat.le_of_ble_eq_true rfl⟩ ⟨Nat.zero_le _, Nat.zero_le _⟩ (Nat.le_of_ble_eq_true rfl) dX6_parseCommand_129 (fun H locs hw => ?_)
      obtain ⟨k29, hf⟩ := xk_of hf
      refine x_iast (n := 35) (f := uT8) (σ' := (wA, (uT0, uT1, uT2_26, uT3_27, uT4, uT5, uT6, uT7, (upd uT8 x1.toNatClampNeg v25)), wZ)) hc hw co_241 k29 so_T_8 dX6_parseCommand_132 (fun H locs hw => ?_)
      exact jl_X6_parseCommand_133 hc K _ _ _ _ _ _ _ _ _ hf hw (lv_sub hl [0] rfl)
set_option maxHeartbeats 4000000 in
set_option maxRecDepth 100000 in
theorem jl_X6_parseCommand_86 {l : Launch} {κ : xKt} {wA : Nat → sAcc} {wZ : sRng × sMai × sRef × sOut} {fu : Nat} {uT0 : Int32} {uT1 : xF32} {uT4 : Int32} {yT2 : Int32} {yT3 : Int32} {yT5 : xF32} {yT6 : xF32} {yT7 : xF32} {yT8 : xF32} {A : Nat → Prop} {p : Program} {e : Env} {s : State} {m : MethodId} {args : Array Value} {below : List Frame} {meth : Method} {c : Code} {Q : State → Prop}
    (hc : xC κ A p s m args meth c cX6_parseCommand RX6 3 none)
    (K : ∀ (pc : Nat) (ls : Array Slot) (H : Heap) (locs : List Loc), decode cX6_parseCommand pc = .ok (.return_, 1) → xW κ A s (wA, (uT0, uT1, yT2, yT3, uT4, yT5, yT6, yT7, yT8), wZ) H locs → W p l e (xR 3 0 0) s m args below meth c H locs 0 0 Q (F0 m pc ls [])) :
    ∀ (x1 : Int32) (x2 : Int32) (uT2 : Int32) (uT3 : Int32) (uT5 : xF32) (uT6 : xF32) (uT7 : xF32) (uT8 : xF32) (H : Heap) (locs : List Loc) (ls : Array Slot), j_X6_parseCommand_86 fu uT0 uT1 x1 x2 uT2 uT3 uT5 uT6 uT7 uT8 = some (yT2, yT3, yT5, yT6, yT7, yT8) → xW κ A s (wA, (uT0, uT1, uT2, uT3, uT4, uT5, uT6, uT7, uT8), wZ) H locs → lv_has ls 3 [(0, .ref (xAd κ 236)), (1, .int x1), (2, .int x2)] → W p l e (xR 3 0 0) s m args below meth c H locs 0 0 Q (F0 m 86 ls []) := by
  have hx := hc.1.1
  have hb := hc.1.2.1
  intro x1 x2 uT2 uT3 uT5 uT6 uT7 uT8 H locs ls hf hw hl
  unfold j_X6_parseCommand_86 at hf
  refine lv_aload_n hx hb dX6_parseCommand_86 rfl (lv_at hl 0 rfl) ?_
  refine lv_bipush (v := 62) hx hb dX6_parseCommand_87 (by decide) ?_
  obtain ⟨uT2_9, uT3_10, h11, hf⟩ := xb2_of hf
  refine x_callvV (As := [.int 62]) (rest := []) (σ' := (wA, (uT0, uT1, uT2_9, uT3_10, uT4, uT5, uT6, uT7, uT8), wZ)) hc hw hl.1 (m_X6_takeSign h11) kX6_58 co_236 rfl rfl ⟨rfl, rfl⟩ ⟨Nat.le_of_ble_eq_true rfl, Nat.le_of_ble_eq_true rfl⟩ ⟨Nat.zero_le _, Nat.zero_le _⟩ (Nat.le_of_ble_eq_true rfl) dX6_parseCommand_89 (fun H locs hw => ?_)
  refine lv_aload_n hx hb dX6_parseCommand_92 rfl (lv_at hl 0 rfl) ?_
  refine x_get (v := .ref (xAd κ 240)) hc hw co_236 fX6_36 rfl dX6_parseCommand_93 ?_
  refine lv_iload_n hx hb dX6_parseCommand_96 rfl (lv_at hl 1 rfl) ?_
  refine lv_aload_n hx hb dX6_parseCommand_97 rfl (lv_at hl 0 rfl) ?_
  refine lv_iconst (v := 1) hx hb dX6_parseCommand_98 (by decide) ?_
  obtain ⟨v12, uT2_13, uT3_14, h15, hf⟩ := xb3_of hf
  refine x_calliV (As := [.int 1]) (rest := [.int x1, .ref (xAd κ 240)]) (σ' := (wA, (uT0, uT1, uT2_13, uT3_14, uT4, uT5, uT6, uT7, uT8), wZ)) hc hw hl.1 (m_X6_takeNumber h15) kX6_54 co_236 rfl rfl ⟨rfl, rfl⟩ ⟨Nat.le_of_ble_eq_true rfl, Nat.le_of_ble_eq_true rfl⟩ ⟨Nat.zero_le _, Nat.zero_le _⟩ (Nat.le_of_ble_eq_true rfl) dX6_parseCommand_99 (fun H locs hw => ?_)
  obtain ⟨k16, hf⟩ := xk_of hf
  refine x_iast (n := 35) (f := uT7) (σ' := (wA, (uT0, uT1, uT2_13, uT3_14, uT4, uT5, uT6, (upd uT7 x1.toNatClampNeg v12), uT8), wZ)) hc hw co_240 k16 so_T_7 dX6_parseCommand_102 (fun H locs hw => ?_)
  exact jl_X6_parseCommand_103 hc K _ _ _ _ _ _ _ _ _ _ _ hf hw (lv_sub hl [0, 1, 2] rfl)
set_option maxHeartbeats 4000000 in
set_option maxRecDepth 100000 in
theorem jl_X6_parseCommand_74 {l : Launch} {κ : xKt} {wA : Nat → sAcc} {wZ : sRng × sMai × sRef × sOut} {fu : Nat} {uT0 : Int32} {uT1 : xF32} {uT4 : Int32} {yT2 : Int32} {yT3 : Int32} {yT5 : xF32} {yT6 : xF32} {yT7 : xF32} {yT8 : xF32} {A : Nat → Prop} {p : Program} {e : Env} {s : State} {m : MethodId} {args : Array Value} {below : List Frame} {meth : Method} {c : Code} {Q : State → Prop}
    (hc : xC κ A p s m args meth c cX6_parseCommand RX6 3 none)
    (K : ∀ (pc : Nat) (ls : Array Slot) (H : Heap) (locs : List Loc), decode cX6_parseCommand pc = .ok (.return_, 1) → xW κ A s (wA, (uT0, uT1, yT2, yT3, uT4, yT5, yT6, yT7, yT8), wZ) H locs → W p l e (xR 3 0 0) s m args below meth c H locs 0 0 Q (F0 m pc ls [])) :
    ∀ (x1 : Int32) (x2 : Int32) (uT2 : Int32) (uT3 : Int32) (uT5 : xF32) (uT6 : xF32) (uT7 : xF32) (uT8 : xF32) (H : Heap) (locs : List Loc) (ls : Array Slot), j_X6_parseCommand_74 fu uT0 uT1 x1 x2 uT2 uT3 uT5 uT6 uT7 uT8 = some (yT2, yT3, yT5, yT6, yT7, yT8) → xW κ A s (wA, (uT0, uT1, uT2, uT3, uT4, uT5, uT6, uT7, uT8), wZ) H locs → lv_has ls 3 [(0, .ref (xAd κ 236)), (1, .int x1), (2, .int x2)] → W p l e (xR 3 0 0) s m args below meth c H locs 0 0 Q (F0 m 74 ls []) := by
  have hx := hc.1.1
  have hb := hc.1.2.1
  intro x1 x2 uT2 uT3 uT5 uT6 uT7 uT8 H locs ls hf hw hl
  unfold j_X6_parseCommand_74 at hf
  refine lv_iload_n hx hb dX6_parseCommand_74 rfl (lv_at hl 2 rfl) ?_
  refine lv_bipush (v := 99) hx hb dX6_parseCommand_75 (by decide) ?_
  refine lv_icmp_eq (tgt := 86) hx hb dX6_parseCommand_77 (by decide) (fun c8 => ?_) (fun c8 => ?_)
  · have hf := xif_t c8 hf
    exact jl_X6_parseCommand_86 hc K _ _ _ _ _ _ _ _ _ _ _ hf hw (lv_sub hl [0, 1, 2] rfl)
  · have hf := xif_f c8 hf
    refine lv_iload_n hx hb dX6_parseCommand_80 rfl (lv_at hl 2 rfl) ?_
    refine lv_bipush (v := 115) hx hb dX6_parseCommand_81 (by decide) ?_
    refine lv_icmp_ne (tgt := 103) hx hb dX6_parseCommand_83 (by decide) (fun c30 => ?_) (fun c30 => ?_)
    · have hf := xif_f c30 hf
      exact jl_X6_parseCommand_103 hc K _ _ _ _ _ _ _ _ _ _ _ hf hw (lv_sub hl [0, 1, 2] rfl)
    · have hf := xif_t c30 hf
      exact jl_X6_parseCommand_86 hc K _ _ _ _ _ _ _ _ _ _ _ hf hw (lv_sub hl [0, 1, 2] rfl)
set_option maxHeartbeats 4000000 in
set_option maxRecDepth 100000 in
theorem m_X6_parseCommand {l : Launch} {κ : xKt} {wA : Nat → sAcc} {wZ : sRng × sMai × sRef × sOut} {fu : Nat} {x1 : Int32} {uT0 : Int32} {uT1 : xF32} {uT2 : Int32} {uT3 : Int32} {uT4 : Int32} {uT5 : xF32} {uT6 : xF32} {uT7 : xF32} {uT8 : xF32} {yT2 : Int32} {yT3 : Int32} {yT5 : xF32} {yT6 : xF32} {yT7 : xF32} {yT8 : xF32} (hf : f_X6_parseCommand fu x1 uT0 uT1 uT2 uT3 uT5 uT6 uT7 uT8 = some (yT2, yT3, yT5, yT6, yT7, yT8)) : xMv l κ yX6_parseCommand cX6_parseCommand 3 none (xR 3 0 0) [.ref (xAd κ 236), .int x1] (wA, (uT0, uT1, uT2, uT3, uT4, uT5, uT6, uT7, uT8), wZ) (wA, (uT0, uT1, yT2, yT3, uT4, yT5, yT6, yT7, yT8), wZ) := by
  unfold f_X6_parseCommand at hf
  refine xMv_of pn_X6 (Nat.le_of_ble_eq_true rfl) ⟨rfl, rfl⟩ ?_
  intro A p e s m args below meth c ls Q hc hw hl K
  have hc : xC κ A p s m args meth c cX6_parseCommand RX6 3 none := hc
  have hx := hc.1.1
  have hb := hc.1.2.1
  have hl : lv_has ls 3 [(0, .ref (xAd κ 236)), (1, .int x1)] := hl
  refine lv_aload_n hx hb dX6_parseCommand_0 rfl (lv_at hl 0 rfl) ?_
  obtain ⟨v1, h2, hf⟩ := xb1_of hf
  refine x_calliV (As := []) (rest := []) (σ' := (wA, (uT0, uT1, uT2, uT3, uT4, uT5, uT6, uT7, uT8), wZ)) hc hw hl.1 (m_X6_signAhead h2) kX6_46 co_236 rfl rfl ⟨rfl, rfl⟩ ⟨Nat.le_of_ble_eq_true rfl, Nat.le_of_ble_eq_true rfl⟩ ⟨Nat.zero_le _, Nat.zero_le _⟩ (Nat.le_of_ble_eq_true rfl) dX6_parseCommand_1 (fun H locs hw => ?_)
  refine lv_istore_n (lv' := [(2, .int v1), (0, .ref (xAd κ 236)), (1, .int x1)]) hx hb dX6_parseCommand_4 rfl hl (by decide) rfl (fun ls hl => ?_)
  refine lv_aload_n hx hb dX6_parseCommand_5 rfl (lv_at hl 1 rfl) ?_
  refine x_get (v := .ref (xAd κ 238)) hc hw co_236 fX6_29 rfl dX6_parseCommand_6 ?_
  refine lv_iload_n hx hb dX6_parseCommand_9 rfl (lv_at hl 2 rfl) ?_
  refine lv_iload_n hx hb dX6_parseCommand_10 rfl (lv_at hl 0 rfl) ?_
  obtain ⟨k3, hf⟩ := xk_of hf
  refine x_iast (n := 35) (f := uT5) (σ' := (wA, (uT0, uT1, uT2, uT3, uT4, (upd uT5 x1.toNatClampNeg v1), uT6, uT7, uT8), wZ)) hc hw co_238 k3 so_T_5 dX6_parseCommand_11 (fun H locs hw => ?_)
  refine lv_iload_n hx hb dX6_parseCommand_12 rfl (lv_at hl 0 rfl) ?_
  obtain ⟨v4, h5, hf⟩ := xb1_of hf
  refine x_calliS (As := [.int v1]) (rest := []) (σ' := (wA, (uT0, uT1, uT2, uT3, uT4, (upd uT5 x1.toNatClampNeg v1), uT6, uT7, uT8), wZ)) hc hw hl.1 (m_X6_isKind h5) kX6_50 rfl rfl ⟨rfl, rfl⟩ ⟨Nat.le_of_ble_eq_true rfl, Nat.le_of_ble_eq_true rfl⟩ ⟨Nat.zero_le _, Nat.zero_le _⟩ (Nat.le_of_ble_eq_true rfl) dX6_parseCommand_13 (fun H locs hw => ?_)
  refine lv_if_ne (tgt := 25) hx hb dX6_parseCommand_16 (by decide) (fun c6 => ?_) (fun c6 => ?_)
  · have hf := xif_f c6 hf
    refine lv_aload_n hx hb dX6_parseCommand_25 rfl (lv_at hl 1 rfl) ?_
    refine lv_dup hx hb dX6_parseCommand_26 rfl ?_
    refine x_get (v := .int uT2) hc hw co_236 fX6_19 rfl dX6_parseCommand_27 ?_
    refine lv_iconst (v := 1) hx hb dX6_parseCommand_30 (by decide) ?_
    refine lv_iadd hx hb dX6_parseCommand_31 ?_
    refine x_put (σ' := (wA, (uT0, uT1, (uT2 + 1), uT3, uT4, (upd uT5 x1.toNatClampNeg v1), uT6, uT7, uT8), wZ)) hc hw co_236 fX6_19 rfl rfl (Nat.le_of_ble_eq_true rfl) so_T_2 dX6_parseCommand_32 (fun H locs hw => ?_)
    refine lv_iload_n hx hb dX6_parseCommand_35 rfl (lv_at hl 0 rfl) ?_
    refine lv_bipush (v := 103) hx hb dX6_parseCommand_36 (by decide) ?_
    refine lv_icmp_eq (tgt := 74) hx hb dX6_parseCommand_38 (by decide) (fun c7 => ?_) (fun c7 => ?_)
    · have hf := xif_t c7 hf
      exact jl_X6_parseCommand_74 hc K _ _ _ _ _ _ _ _ _ _ _ hf hw (lv_sub hl [1, 2, 0] rfl)
    · have hf := xif_f c7 hf
      refine lv_aload_n hx hb dX6_parseCommand_41 rfl (lv_at hl 1 rfl) ?_
      refine x_get (v := .ref (xAd κ 239)) hc hw co_236 fX6_33 rfl dX6_parseCommand_42 ?_
      refine lv_iload_n hx hb dX6_parseCommand_45 rfl (lv_at hl 2 rfl) ?_
      refine lv_aload_n hx hb dX6_parseCommand_46 rfl (lv_at hl 1 rfl) ?_
      refine lv_iload_n hx hb dX6_parseCommand_47 rfl (lv_at hl 0 rfl) ?_
      refine lv_bipush (v := 99) hx hb dX6_parseCommand_48 (by decide) ?_
      refine lv_icmp_eq (tgt := 65) hx hb dX6_parseCommand_50 (by decide) (fun c31 => ?_) (fun c31 => ?_)
      · have hf := xif_t c31 hf
        refine lv_iconst (v := 1) hx hb dX6_parseCommand_65 (by decide) ?_
        refine lv_goto (tgt := 70) hx hb dX6_parseCommand_66 (by decide) ?_
        obtain ⟨v32, uT2_33, uT3_34, h35, hf⟩ := xb3_of hf
        refine x_calliV (As := [.int 1]) (rest := [.int x1, .ref (xAd κ 239)]) (σ' := (wA, (uT0, uT1, uT2_33, uT3_34, uT4, (upd uT5 x1.toNatClampNeg v1), uT6, uT7, uT8), wZ)) hc hw hl.1 (m_X6_takeNumber h35) kX6_54 co_236 rfl rfl ⟨rfl, rfl⟩ ⟨Nat.le_of_ble_eq_true rfl, Nat.le_of_ble_eq_true rfl⟩ ⟨Nat.zero_le _, Nat.zero_le _⟩ (Nat.le_of_ble_eq_true rfl) dX6_parseCommand_70 (fun H locs hw => ?_)
        obtain ⟨k36, hf⟩ := xk_of hf
        refine x_iast (n := 35) (f := uT6) (σ' := (wA, (uT0, uT1, uT2_33, uT3_34, uT4, (upd uT5 x1.toNatClampNeg v1), (upd uT6 x1.toNatClampNeg v32), uT7, uT8), wZ)) hc hw co_239 k36 so_T_6 dX6_parseCommand_73 (fun H locs hw => ?_)
        exact jl_X6_parseCommand_74 hc K _ _ _ _ _ _ _ _ _ _ _ hf hw (lv_sub hl [1, 2, 0] rfl)
      · have hf := xif_f c31 hf
        refine lv_iload_n hx hb dX6_parseCommand_53 rfl (lv_at hl 0 rfl) ?_
        refine lv_bipush (v := 115) hx hb dX6_parseCommand_54 (by decide) ?_
        refine lv_icmp_eq (tgt := 65) hx hb dX6_parseCommand_56 (by decide) (fun c37 => ?_) (fun c37 => ?_)
        · have hf := xif_t c37 hf
          refine lv_iconst (v := 1) hx hb dX6_parseCommand_65 (by decide) ?_
          refine lv_goto (tgt := 70) hx hb dX6_parseCommand_66 (by decide) ?_
          obtain ⟨v38, uT2_39, uT3_40, h41, hf⟩ := xb3_of hf
          refine x_calliV (As := [.int 1]) (rest := [.int x1, .ref (xAd κ 239)]) (σ' := (wA, (uT0, uT1, uT2_39, uT3_40, uT4, (upd uT5 x1.toNatClampNeg v1), uT6, uT7, uT8), wZ)) hc hw hl.1 (m_X6_takeNumber h41) kX6_54 co_236 rfl rfl ⟨rfl, rfl⟩ ⟨Nat.le_of_ble_eq_true rfl, Nat.le_of_ble_eq_true rfl⟩ ⟨Nat.zero_le _, Nat.zero_le _⟩ (Nat.le_of_ble_eq_true rfl) dX6_parseCommand_70 (fun H locs hw => ?_)
          obtain ⟨k42, hf⟩ := xk_of hf
          refine x_iast (n := 35) (f := uT6) (σ' := (wA, (uT0, uT1, uT2_39, uT3_40, uT4, (upd uT5 x1.toNatClampNeg v1), (upd uT6 x1.toNatClampNeg v38), uT7, uT8), wZ)) hc hw co_239 k42 so_T_6 dX6_parseCommand_73 (fun H locs hw => ?_)
          exact jl_X6_parseCommand_74 hc K _ _ _ _ _ _ _ _ _ _ _ hf hw (lv_sub hl [1, 2, 0] rfl)
        · have hf := xif_f c37 hf
          refine lv_iload_n hx hb dX6_parseCommand_59 rfl (lv_at hl 0 rfl) ?_
          refine lv_bipush (v := 112) hx hb dX6_parseCommand_60 (by decide) ?_
          refine lv_icmp_ne (tgt := 69) hx hb dX6_parseCommand_62 (by decide) (fun c43 => ?_) (fun c43 => ?_)
          · have hf := xif_f c43 hf
            refine lv_iconst (v := 3) hx hb dX6_parseCommand_69 (by decide) ?_
            obtain ⟨v44, uT2_45, uT3_46, h47, hf⟩ := xb3_of hf
            refine x_calliV (As := [.int 3]) (rest := [.int x1, .ref (xAd κ 239)]) (σ' := (wA, (uT0, uT1, uT2_45, uT3_46, uT4, (upd uT5 x1.toNatClampNeg v1), uT6, uT7, uT8), wZ)) hc hw hl.1 (m_X6_takeNumber h47) kX6_54 co_236 rfl rfl ⟨rfl, rfl⟩ ⟨Nat.le_of_ble_eq_true rfl, Nat.le_of_ble_eq_true rfl⟩ ⟨Nat.zero_le _, Nat.zero_le _⟩ (Nat.le_of_ble_eq_true rfl) dX6_parseCommand_70 (fun H locs hw => ?_)
            obtain ⟨k48, hf⟩ := xk_of hf
            refine x_iast (n := 35) (f := uT6) (σ' := (wA, (uT0, uT1, uT2_45, uT3_46, uT4, (upd uT5 x1.toNatClampNeg v1), (upd uT6 x1.toNatClampNeg v44), uT7, uT8), wZ)) hc hw co_239 k48 so_T_6 dX6_parseCommand_73 (fun H locs hw => ?_)
            exact jl_X6_parseCommand_74 hc K _ _ _ _ _ _ _ _ _ _ _ hf hw (lv_sub hl [1, 2, 0] rfl)
          · have hf := xif_t c43 hf
            refine lv_iconst (v := 1) hx hb dX6_parseCommand_65 (by decide) ?_
            refine lv_goto (tgt := 70) hx hb dX6_parseCommand_66 (by decide) ?_
            obtain ⟨v49, uT2_50, uT3_51, h52, hf⟩ := xb3_of hf
            refine x_calliV (As := [.int 1]) (rest := [.int x1, .ref (xAd κ 239)]) (σ' := (wA, (uT0, uT1, uT2_50, uT3_51, uT4, (upd uT5 x1.toNatClampNeg v1), uT6, uT7, uT8), wZ)) hc hw hl.1 (m_X6_takeNumber h52) kX6_54 co_236 rfl rfl ⟨rfl, rfl⟩ ⟨Nat.le_of_ble_eq_true rfl, Nat.le_of_ble_eq_true rfl⟩ ⟨Nat.zero_le _, Nat.zero_le _⟩ (Nat.le_of_ble_eq_true rfl) dX6_parseCommand_70 (fun H locs hw => ?_)
            obtain ⟨k53, hf⟩ := xk_of hf
            refine x_iast (n := 35) (f := uT6) (σ' := (wA, (uT0, uT1, uT2_50, uT3_51, uT4, (upd uT5 x1.toNatClampNeg v1), (upd uT6 x1.toNatClampNeg v49), uT7, uT8), wZ)) hc hw co_239 k53 so_T_6 dX6_parseCommand_73 (fun H locs hw => ?_)
            exact jl_X6_parseCommand_74 hc K _ _ _ _ _ _ _ _ _ _ _ hf hw (lv_sub hl [1, 2, 0] rfl)
  · have hf := xif_t c6 hf
    refine lv_aload_n hx hb dX6_parseCommand_19 rfl (lv_at hl 1 rfl) ?_
    refine lv_iconst (v := 0) hx hb dX6_parseCommand_20 (by decide) ?_
    refine x_put (σ' := (wA, (uT0, uT1, uT2, 0, uT4, (upd uT5 x1.toNatClampNeg v1), uT6, uT7, uT8), wZ)) hc hw co_236 fX6_22 rfl rfl (Nat.le_of_ble_eq_true rfl) so_T_3 dX6_parseCommand_21 (fun H locs hw => ?_)
    cases hf
    exact K _ _ _ _ dX6_parseCommand_24 hw
def f_X6_parseAll_28 (fu : Nat) (uT0 : Int32) (uT1 : xF32) : Nat → (Int32) → (Int32) → (Int32) → (Int32) → (xF32) → (xF32) → (xF32) → (xF32) → Option (Int32 × Int32 × Int32 × Int32 × xF32 × xF32 × xF32 × xF32)
  | 0, _, _, _, _, _, _, _, _ => none
  | n + 1, x1, uT2, uT3, uT4, uT5, uT6, uT7, uT8 => if 35 ≤ x1 then (xk (xisb uT3) (some (uT3, uT2, uT3, uT4, uT5, uT6, uT7, uT8))) else (if uT3 = 0 then (xk (xisb uT3) (some (uT3, uT2, uT3, uT4, uT5, uT6, uT7, uT8))) else (if uT0 ≤ uT2 then (xk (xisb uT3) (some (uT3, uT2, uT3, uT4, uT5, uT6, uT7, uT8))) else (xb6 (f_X6_parseCommand fu x1 uT0 uT1 uT2 uT3 uT5 uT6 uT7 uT8) fun uT2_8 uT3_9 uT5_10 uT6_11 uT7_12 uT8_13 => (f_X6_parseAll_28 fu uT0 uT1 n (x1 + 1) uT2_8 uT3_9 (x1 + 1) uT5_10 uT6_11 uT7_12 uT8_13))))
def f_X6_parseAll (fu : Nat) (uT0 : Int32) (uT1 : xF32) (uT2 : Int32) (uT3 : Int32) (uT4 : Int32) (uT5 : xF32) (uT6 : xF32) (uT7 : xF32) (uT8 : xF32) : Option (Int32 × Int32 × Int32 × Int32 × xF32 × xF32 × xF32 × xF32) :=
  if uT0 ≤ 0 then (f_X6_parseAll_28 fu uT0 uT1 fu 0 0 0 0 uT5 uT6 uT7 uT8) else (f_X6_parseAll_28 fu uT0 uT1 fu 0 0 1 0 uT5 uT6 uT7 uT8)
set_option maxHeartbeats 4000000 in
set_option maxRecDepth 100000 in
theorem l_X6_parseAll_28 {l : Launch} {κ : xKt} {wA : Nat → sAcc} {wZ : sRng × sMai × sRef × sOut} {fu : Nat} {uT0 : Int32} {uT1 : xF32} {A : Nat → Prop} {p : Program} {e : Env} {s : State} {m : MethodId} {args : Array Value} {below : List Frame} {meth : Method} {c : Code} {Q : State → Prop} {rr : Int32} {yT2 : Int32} {yT3 : Int32} {yT4 : Int32} {yT5 : xF32} {yT6 : xF32} {yT7 : xF32} {yT8 : xF32}
    (hc : xC κ A p s m args meth c cX6_parseAll RX6 2 (some .boolean))
    (K : ∀ (pc : Nat) (ls : Array Slot) (H : Heap) (locs : List Loc), decode cX6_parseAll pc = .ok (.ireturn, 1) → narrow .boolean (.int rr) = .int rr → xW κ A s (wA, (uT0, uT1, yT2, yT3, yT4, yT5, yT6, yT7, yT8), wZ) H locs → W p l e (xR 4 0 0) s m args below meth c H locs 0 0 Q (F0 m pc ls [.int rr])) :
    ∀ (n : Nat) (x1 : Int32) (uT2 : Int32) (uT3 : Int32) (uT4 : Int32) (uT5 : xF32) (uT6 : xF32) (uT7 : xF32) (uT8 : xF32) (H : Heap) (locs : List Loc) (ls : Array Slot), f_X6_parseAll_28 fu uT0 uT1 n x1 uT2 uT3 uT4 uT5 uT6 uT7 uT8 = some (rr, yT2, yT3, yT4, yT5, yT6, yT7, yT8) → xW κ A s (wA, (uT0, uT1, uT2, uT3, uT4, uT5, uT6, uT7, uT8), wZ) H locs → lv_has ls 2 [(0, .ref (xAd κ 236)), (1, .int x1)] → W p l e (xR 4 0 0) s m args below meth c H locs 0 0 Q (F0 m 28 ls []) := by
  have hx := hc.1.1
  have hb := hc.1.2.1
  intro n
  induction n with
  | zero =>
    intro x1 uT2 uT3 uT4 uT5 uT6 uT7 uT8 H locs ls hf
    rw [f_X6_parseAll_28] at hf
    cases hf
  | succ n hi =>
    intro x1 uT2 uT3 uT4 uT5 uT6 uT7 uT8 H locs ls hf hw hl
    rw [f_X6_parseAll_28] at hf
    refine lv_iload_n hx hb dX6_parseAll_28 rfl (lv_at hl 1 rfl) ?_
    refine lv_bipush (v := 35) hx hb dX6_parseAll_29 (by decide) ?_
    refine lv_icmp_ge (tgt := 70) hx hb dX6_parseAll_31 (by decide) (fun c2 => ?_) (fun c2 => ?_)
    · have hf := xif_t c2 hf
      refine lv_aload_n hx hb dX6_parseAll_70 rfl (lv_at hl 0 rfl) ?_
      refine x_get (v := .int uT3) hc hw co_236 fX6_22 rfl dX6_parseAll_71 ?_
      obtain ⟨k3, hf⟩ := xk_of hf
      cases hf
      exact K _ _ _ _ dX6_parseAll_74 (xisb_n k3).1 hw
    · have hf := xif_f c2 hf
      refine lv_aload_n hx hb dX6_parseAll_34 rfl (lv_at hl 0 rfl) ?_
      refine x_get (v := .int uT3) hc hw co_236 fX6_22 rfl dX6_parseAll_35 ?_
      refine lv_if_eq (tgt := 70) hx hb dX6_parseAll_38 (by decide) (fun c4 => ?_) (fun c4 => ?_)
      · have hf := xif_t c4 hf
        refine lv_aload_n hx hb dX6_parseAll_70 rfl (lv_at hl 0 rfl) ?_
        refine x_get (v := .int uT3) hc hw co_236 fX6_22 rfl dX6_parseAll_71 ?_
        obtain ⟨k5, hf⟩ := xk_of hf
        cases hf
        exact K _ _ _ _ dX6_parseAll_74 (xisb_n k5).1 hw
      · have hf := xif_f c4 hf
        refine lv_aload_n hx hb dX6_parseAll_41 rfl (lv_at hl 0 rfl) ?_
        refine x_get (v := .int uT2) hc hw co_236 fX6_19 rfl dX6_parseAll_42 ?_
        refine lv_aload_n hx hb dX6_parseAll_45 rfl (lv_at hl 0 rfl) ?_
        refine x_get (v := .int uT0) hc hw co_236 fX6_9 rfl dX6_parseAll_46 ?_
        refine lv_icmp_ge (tgt := 70) hx hb dX6_parseAll_49 (by decide) (fun c6 => ?_) (fun c6 => ?_)
        · have hf := xif_t c6 hf
          refine lv_aload_n hx hb dX6_parseAll_70 rfl (lv_at hl 0 rfl) ?_
          refine x_get (v := .int uT3) hc hw co_236 fX6_22 rfl dX6_parseAll_71 ?_
          obtain ⟨k7, hf⟩ := xk_of hf
          cases hf
          exact K _ _ _ _ dX6_parseAll_74 (xisb_n k7).1 hw
        · have hf := xif_f c6 hf
          refine lv_aload_n hx hb dX6_parseAll_52 rfl (lv_at hl 0 rfl) ?_
          refine lv_iload_n hx hb dX6_parseAll_53 rfl (lv_at hl 1 rfl) ?_
          obtain ⟨uT2_8, uT3_9, uT5_10, uT6_11, uT7_12, uT8_13, h14, hf⟩ := xb6_of hf
          refine x_callvV (As := [.int x1]) (rest := []) (σ' := (wA, (uT0, uT1, uT2_8, uT3_9, uT4, uT5_10, uT6_11, uT7_12, uT8_13), wZ)) hc hw hl.1 (m_X6_parseCommand h14) kX6_42 co_236 rfl rfl ⟨rfl, rfl⟩ ⟨Nat.le_of_ble_eq_true rfl, Nat.le_of_ble_eq_true rfl⟩ ⟨Nat.zero_le _, Nat.zero_le _⟩ (Nat.le_of_ble_eq_true rfl) dX6_parseAll_54 (fun H locs hw => ?_)
          refine lv_aload_n hx hb dX6_parseAll_57 rfl (lv_at hl 0 rfl) ?_
          refine lv_iload_n hx hb dX6_parseAll_58 rfl (lv_at hl 1 rfl) ?_
          refine lv_iconst (v := 1) hx hb dX6_parseAll_59 (by decide) ?_
          refine lv_iadd hx hb dX6_parseAll_60 ?_
          refine x_put (σ' := (wA, (uT0, uT1, uT2_8, uT3_9, (x1 + 1), uT5_10, uT6_11, uT7_12, uT8_13), wZ)) hc hw co_236 fX6_26 rfl rfl (Nat.le_of_ble_eq_true rfl) so_T_4 dX6_parseAll_61 (fun H locs hw => ?_)
          refine lv_iinc (v := (x1 + 1)) (lv' := [(1, .int (x1 + 1)), (0, .ref (xAd κ 236))]) hx hb dX6_parseAll_64 hl (k := 1) rfl rfl (by decide) rfl (fun ls hl => ?_)
          refine lv_goto (tgt := 28) hx hb dX6_parseAll_67 (by decide) ?_
          exact hi _ _ _ _ _ _ _ _ _ _ _ hf hw (lv_sub hl [1, 0] rfl)
set_option maxHeartbeats 4000000 in
set_option maxRecDepth 100000 in
theorem m_X6_parseAll {l : Launch} {κ : xKt} {wA : Nat → sAcc} {wZ : sRng × sMai × sRef × sOut} {fu : Nat} {uT0 : Int32} {uT1 : xF32} {uT2 : Int32} {uT3 : Int32} {uT4 : Int32} {uT5 : xF32} {uT6 : xF32} {uT7 : xF32} {uT8 : xF32} {rr : Int32} {yT2 : Int32} {yT3 : Int32} {yT4 : Int32} {yT5 : xF32} {yT6 : xF32} {yT7 : xF32} {yT8 : xF32} (hf : f_X6_parseAll fu uT0 uT1 uT2 uT3 uT4 uT5 uT6 uT7 uT8 = some (rr, yT2, yT3, yT4, yT5, yT6, yT7, yT8)) : xMi l κ yX6_parseAll cX6_parseAll 2 (some .boolean) (xR 4 0 0) [.ref (xAd κ 236)] (wA, (uT0, uT1, uT2, uT3, uT4, uT5, uT6, uT7, uT8), wZ) (wA, (uT0, uT1, yT2, yT3, yT4, yT5, yT6, yT7, yT8), wZ) rr := by
  unfold f_X6_parseAll at hf
  refine xMi_of pn_X6 (Nat.le_of_ble_eq_true rfl) ⟨rfl, rfl⟩ ?_
  intro A p e s m args below meth c ls Q hc hw hl K
  have hc : xC κ A p s m args meth c cX6_parseAll RX6 2 (some .boolean) := hc
  have hx := hc.1.1
  have hb := hc.1.2.1
  have hl : lv_has ls 2 [(0, .ref (xAd κ 236))] := hl
  refine lv_aload_n hx hb dX6_parseAll_0 rfl (lv_at hl 0 rfl) ?_
  refine lv_iconst (v := 0) hx hb dX6_parseAll_1 (by decide) ?_
  refine x_put (σ' := (wA, (uT0, uT1, 0, uT3, uT4, uT5, uT6, uT7, uT8), wZ)) hc hw co_236 fX6_19 rfl rfl (Nat.le_of_ble_eq_true rfl) so_T_2 dX6_parseAll_2 (fun H locs hw => ?_)
  refine lv_aload_n hx hb dX6_parseAll_5 rfl (lv_at hl 0 rfl) ?_
  refine lv_iconst (v := 0) hx hb dX6_parseAll_6 (by decide) ?_
  refine x_put (σ' := (wA, (uT0, uT1, 0, uT3, 0, uT5, uT6, uT7, uT8), wZ)) hc hw co_236 fX6_26 rfl rfl (Nat.le_of_ble_eq_true rfl) so_T_4 dX6_parseAll_7 (fun H locs hw => ?_)
  refine lv_aload_n hx hb dX6_parseAll_10 rfl (lv_at hl 0 rfl) ?_
  refine lv_aload_n hx hb dX6_parseAll_11 rfl (lv_at hl 0 rfl) ?_
  refine x_get (v := .int uT0) hc hw co_236 fX6_9 rfl dX6_parseAll_12 ?_
  refine lv_if_le (tgt := 22) hx hb dX6_parseAll_15 (by decide) (fun c1 => ?_) (fun c1 => ?_)
  · have hf := xif_t c1 hf
    refine lv_iconst (v := 0) hx hb dX6_parseAll_22 (by decide) ?_
    refine x_put (σ' := (wA, (uT0, uT1, 0, 0, 0, uT5, uT6, uT7, uT8), wZ)) hc hw co_236 fX6_22 rfl rfl (Nat.le_of_ble_eq_true rfl) so_T_3 dX6_parseAll_23 (fun H locs hw => ?_)
    refine lv_iconst (v := 0) hx hb dX6_parseAll_26 (by decide) ?_
    refine lv_istore_n (lv' := [(1, .int 0), (0, .ref (xAd κ 236))]) hx hb dX6_parseAll_27 rfl hl (by decide) rfl (fun ls hl => ?_)
    exact l_X6_parseAll_28 hc K fu _ _ _ _ _ _ _ _ _ _ _ hf hw (lv_sub hl [1, 0] rfl)
  · have hf := xif_f c1 hf
    refine lv_iconst (v := 1) hx hb dX6_parseAll_18 (by decide) ?_
    refine lv_goto (tgt := 23) hx hb dX6_parseAll_19 (by decide) ?_
    refine x_put (σ' := (wA, (uT0, uT1, 0, 1, 0, uT5, uT6, uT7, uT8), wZ)) hc hw co_236 fX6_22 rfl rfl (Nat.le_of_ble_eq_true rfl) so_T_3 dX6_parseAll_23 (fun H locs hw => ?_)
    refine lv_iconst (v := 0) hx hb dX6_parseAll_26 (by decide) ?_
    refine lv_istore_n (lv' := [(1, .int 0), (0, .ref (xAd κ 236))]) hx hb dX6_parseAll_27 rfl hl (by decide) rfl (fun ls hl => ?_)
    exact l_X6_parseAll_28 hc K fu _ _ _ _ _ _ _ _ _ _ _ hf hw (lv_sub hl [1, 0] rfl)
def f_X7_isSide (x0 : Int32) : Option Int32 :=
  xb1 (f_X7_isWithin x0 0 1) fun v1 => (xk (xisb v1) (some v1))
set_option maxHeartbeats 4000000 in
set_option maxRecDepth 100000 in
theorem m_X7_isSide {l : Launch} {κ : xKt} {wS : sW}  {x0 : Int32} {rr : Int32} (hf : f_X7_isSide x0 = some rr) : xMi l κ yX7_isSide cX7_isSide 1 (some .boolean) (xR 1 0 0) [.int x0] wS wS rr := by
  unfold f_X7_isSide at hf
  refine xMi_of pn_X7 (Nat.le_of_ble_eq_true rfl) ⟨rfl, rfl⟩ ?_
  intro A p e s m args below meth c ls Q hc hw hl K
  have hc : xC κ A p s m args meth c cX7_isSide RX7 1 (some .boolean) := hc
  have hx := hc.1.1
  have hb := hc.1.2.1
  have hl : lv_has ls 1 [(0, .int x0)] := hl
  refine lv_iload_n hx hb dX7_isSide_0 rfl (lv_at hl 0 rfl) ?_
  refine lv_iconst (v := 0) hx hb dX7_isSide_1 (by decide) ?_
  refine lv_iconst (v := 1) hx hb dX7_isSide_2 (by decide) ?_
  obtain ⟨v1, h2, hf⟩ := xb1_of hf
  refine x_calliS (As := [.int x0, .int 0, .int 1]) (rest := []) (σ' := wS) hc hw hl.1 (m_X7_isWithin h2) kX7_70 rfl rfl ⟨rfl, rfl⟩ ⟨Nat.le_of_ble_eq_true rfl, Nat.le_of_ble_eq_true rfl⟩ ⟨Nat.zero_le _, Nat.zero_le _⟩ (Nat.le_of_ble_eq_true rfl) dX7_isSide_3 (fun H locs hw => ?_)
  obtain ⟨k3, hf⟩ := xk_of hf
  cases hf
  exact K _ _ _ _ dX7_isSide_6 (xisb_n k3).1 hw
