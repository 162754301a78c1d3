def f_X4_has (x1 : Int32) (uP : sPar) : Option Int32 :=
  if x1 < 0 then (some 0) else (if uP.1 ≤ x1 then (some 0) else (some 1))
set_option maxHeartbeats 4000000 in
set_option maxRecDepth 100000 in
theorem m_X4_has {l : Launch} {κ : xKt} {wA : Nat → sAcc} {wa : Nat} {wY : sTxt × sRng × sMai × sRef × sOut} (ha : wa < 9)  {x1 : Int32} {uP : sPar} {uC : sCla} {uD : sDeb} {uJ : sJou} {ur : xF32} {ut : xF32} {ud : Int32} {ug : Int32} {rr : Int32} (hf : f_X4_has x1 uP = some rr) : xMi l κ yX4_has cX4_has 2 (some .boolean) (xR 0 0 0) [.ref (xAd κ (26 * wa + 1)), .int x1] (upA wA wa (uP, uC, uD, uJ, ur, ut, ud, ug), wY) (upA wA wa (uP, uC, uD, uJ, ur, ut, ud, ug), wY) rr := by
  unfold f_X4_has at hf
  refine xMi_of pn_X4 (Nat.le_of_ble_eq_true rfl) ⟨rfl, rfl⟩ ?_
  intro A p e s m args below meth c ls Q hc hw hl K
  have hc : xC κ A p s m args meth c cX4_has RX4 2 (some .boolean) := hc
  have hx := hc.1.1
  have hb := hc.1.2.1
  have hl : lv_has ls 2 [(0, .ref (xAd κ (26 * wa + 1))), (1, .int x1)] := hl
  refine lv_iload_n hx hb dX4_has_0 rfl (lv_at hl 1 rfl) ?_
  refine lv_if_lt (tgt := 16) hx hb dX4_has_1 (by decide) (fun c1 => ?_) (fun c1 => ?_)
  · have hf := xif_t c1 hf
    refine lv_iconst (v := 0) hx hb dX4_has_16 (by decide) ?_
    cases hf
    exact K _ _ _ _ dX4_has_17 rfl hw
  · have hf := xif_f c1 hf
    refine lv_iload_n hx hb dX4_has_4 rfl (lv_at hl 1 rfl) ?_
    refine lv_aload_n hx hb dX4_has_5 rfl (lv_at hl 0 rfl) ?_
    refine x_get (v := .int uP.1) hc hw (ca_1 ha) fX4_9 rfl dX4_has_6 ?_
    refine lv_icmp_ge (tgt := 16) hx hb dX4_has_9 (by decide) (fun c2 => ?_) (fun c2 => ?_)
    · have hf := xif_t c2 hf
      refine lv_iconst (v := 0) hx hb dX4_has_16 (by decide) ?_
      cases hf
      exact K _ _ _ _ dX4_has_17 rfl hw
    · have hf := xif_f c2 hf
      refine lv_iconst (v := 1) hx hb dX4_has_12 (by decide) ?_
      refine lv_goto (tgt := 17) hx hb dX4_has_13 (by decide) ?_
      cases hf
      exact K _ _ _ _ dX4_has_17 rfl hw
def f_X4_hasBoth (x1 : Int32) (x2 : Int32) (uP : sPar) : Option Int32 :=
  xb1 (f_X4_has x1 uP) fun v1 => (if v1 = 0 then (some 0) else (xb1 (f_X4_has x2 uP) fun v4 => (if v4 = 0 then (some 0) else (some 1))))
set_option maxHeartbeats 4000000 in
set_option maxRecDepth 100000 in
theorem m_X4_hasBoth {l : Launch} {κ : xKt} {wA : Nat → sAcc} {wa : Nat} {wY : sTxt × sRng × sMai × sRef × sOut} (ha : wa < 9)  {x1 : Int32} {x2 : Int32} {uP : sPar} {uC : sCla} {uD : sDeb} {uJ : sJou} {ur : xF32} {ut : xF32} {ud : Int32} {ug : Int32} {rr : Int32} (hf : f_X4_hasBoth x1 x2 uP = some rr) : xMi l κ yX4_hasBoth cX4_hasBoth 3 (some .boolean) (xR 1 0 0) [.ref (xAd κ (26 * wa + 1)), .int x1, .int x2] (upA wA wa (uP, uC, uD, uJ, ur, ut, ud, ug), wY) (upA wA wa (uP, uC, uD, uJ, ur, ut, ud, ug), wY) rr := by
  unfold f_X4_hasBoth at hf
  refine xMi_of pn_X4 (Nat.le_of_ble_eq_true rfl) ⟨rfl, rfl⟩ ?_
  intro A p e s m args below meth c ls Q hc hw hl K
  have hc : xC κ A p s m args meth c cX4_hasBoth RX4 3 (some .boolean) := hc
  have hx := hc.1.1
  have hb := hc.1.2.1
  have hl : lv_has ls 3 [(0, .ref (xAd κ (26 * wa + 1))), (1, .int x1), (2, .int x2)] := hl
  refine lv_aload_n hx hb dX4_hasBoth_0 rfl (lv_at hl 0 rfl) ?_
  refine lv_iload_n hx hb dX4_hasBoth_1 rfl (lv_at hl 1 rfl) ?_
  obtain ⟨v1, h2, hf⟩ := xb1_of hf
  refine x_calliV (As := [.int x1]) (rest := []) (σ' := (upA wA wa (uP, uC, uD, uJ, ur, ut, ud, ug), wY)) hc hw hl.1 (m_X4_has ha h2) kX4_41 (ca_1 ha) rfl rfl ⟨rfl, rfl⟩ ⟨Nat.le_of_ble_eq_true rfl, Nat.le_of_ble_eq_true rfl⟩ ⟨Nat.zero_le _, Nat.zero_le _⟩ (Nat.le_of_ble_eq_true rfl) dX4_hasBoth_2 (fun H locs hw => ?_)
  refine lv_if_eq (tgt := 20) hx hb dX4_hasBoth_5 (by decide) (fun c3 => ?_) (fun c3 => ?_)
  · have hf := xif_t c3 hf
    refine lv_iconst (v := 0) hx hb dX4_hasBoth_20 (by decide) ?_
    cases hf
    exact K _ _ _ _ dX4_hasBoth_21 rfl hw
  · have hf := xif_f c3 hf
    refine lv_aload_n hx hb dX4_hasBoth_8 rfl (lv_at hl 0 rfl) ?_
    refine lv_iload_n hx hb dX4_hasBoth_9 rfl (lv_at hl 2 rfl) ?_
    obtain ⟨v4, h5, hf⟩ := xb1_of hf
    refine x_calliV (As := [.int x2]) (rest := []) (σ' := (upA wA wa (uP, uC, uD, uJ, ur, ut, ud, ug), wY)) hc hw hl.1 (m_X4_has ha h5) kX4_41 (ca_1 ha) rfl rfl ⟨rfl, rfl⟩ ⟨Nat.le_of_ble_eq_true rfl, Nat.le_of_ble_eq_true rfl⟩ ⟨Nat.zero_le _, Nat.zero_le _⟩ (Nat.le_of_ble_eq_true rfl) dX4_hasBoth_10 (fun H locs hw => ?_)
    refine lv_if_eq (tgt := 20) hx hb dX4_hasBoth_13 (by decide) (fun c6 => ?_) (fun c6 => ?_)
    · have hf := xif_t c6 hf
      refine lv_iconst (v := 0) hx hb dX4_hasBoth_20 (by decide) ?_
      cases hf
      exact K _ _ _ _ dX4_hasBoth_21 rfl hw
    · have hf := xif_f c6 hf
      refine lv_iconst (v := 1) hx hb dX4_hasBoth_16 (by decide) ?_
      refine lv_goto (tgt := 21) hx hb dX4_hasBoth_17 (by decide) ?_
      cases hf
      exact K _ _ _ _ dX4_hasBoth_21 rfl hw
def f_X1_has (x1 : Int32) (uC : sCla) : Option Int32 :=
  if x1 < 0 then (some 0) else (if uC.1 ≤ x1 then (some 0) else (some 1))
set_option maxHeartbeats 4000000 in
set_option maxRecDepth 100000 in
theorem m_X1_has {l : Launch} {κ : xKt} {wA : Nat → sAcc} {wa : Nat} {wY : sTxt × sRng × sMai × sRef × sOut} (ha : wa < 9)  {x1 : Int32} {uP : sPar} {uC : sCla} {uD : sDeb} {uJ : sJou} {ur : xF32} {ut : xF32} {ud : Int32} {ug : Int32} {rr : Int32} (hf : f_X1_has x1 uC = some rr) : xMi l κ yX1_has cX1_has 2 (some .boolean) (xR 0 0 0) [.ref (xAd κ (26 * wa + 8)), .int x1] (upA wA wa (uP, uC, uD, uJ, ur, ut, ud, ug), wY) (upA wA wa (uP, uC, uD, uJ, ur, ut, ud, ug), wY) rr := by
  unfold f_X1_has at hf
  refine xMi_of pn_X1 (Nat.le_of_ble_eq_true rfl) ⟨rfl, rfl⟩ ?_
  intro A p e s m args below meth c ls Q hc hw hl K
  have hc : xC κ A p s m args meth c cX1_has RX1 2 (some .boolean) := hc
  have hx := hc.1.1
  have hb := hc.1.2.1
  have hl : lv_has ls 2 [(0, .ref (xAd κ (26 * wa + 8))), (1, .int x1)] := hl
  refine lv_iload_n hx hb dX1_has_0 rfl (lv_at hl 1 rfl) ?_
  refine lv_if_lt (tgt := 16) hx hb dX1_has_1 (by decide) (fun c1 => ?_) (fun c1 => ?_)
  · have hf := xif_t c1 hf
    refine lv_iconst (v := 0) hx hb dX1_has_16 (by decide) ?_
    cases hf
    exact K _ _ _ _ dX1_has_17 rfl hw
  · have hf := xif_f c1 hf
    refine lv_iload_n hx hb dX1_has_4 rfl (lv_at hl 1 rfl) ?_
    refine lv_aload_n hx hb dX1_has_5 rfl (lv_at hl 0 rfl) ?_
    refine x_get (v := .int uC.1) hc hw (ca_8 ha) fX1_9 rfl dX1_has_6 ?_
    refine lv_icmp_ge (tgt := 16) hx hb dX1_has_9 (by decide) (fun c2 => ?_) (fun c2 => ?_)
    · have hf := xif_t c2 hf
      refine lv_iconst (v := 0) hx hb dX1_has_16 (by decide) ?_
      cases hf
      exact K _ _ _ _ dX1_has_17 rfl hw
    · have hf := xif_f c2 hf
      refine lv_iconst (v := 1) hx hb dX1_has_12 (by decide) ?_
      refine lv_goto (tgt := 17) hx hb dX1_has_13 (by decide) ?_
      cases hf
      exact K _ _ _ _ dX1_has_17 rfl hw
def f_X1_leftOf (x1 : Int32) (uC : sCla) : Option Int32 :=
  xk (xin x1 12) (xk (xin x1 12) (xk (xin x1 12) (xk (xin x1 12) (some (((((uC.2.2.2.1 x1.toNatClampNeg) - (uC.2.2.2.2.1 x1.toNatClampNeg)) - (uC.2.2.2.2.2.1 x1.toNatClampNeg)) - (uC.2.2.2.2.2.2 x1.toNatClampNeg)))))))
set_option maxHeartbeats 4000000 in
set_option maxRecDepth 100000 in
theorem m_X1_leftOf {l : Launch} {κ : xKt} {wA : Nat → sAcc} {wa : Nat} {wY : sTxt × sRng × sMai × sRef × sOut} (ha : wa < 9)  {x1 : Int32} {uP : sPar} {uC : sCla} {uD : sDeb} {uJ : sJou} {ur : xF32} {ut : xF32} {ud : Int32} {ug : Int32} {rr : Int32} (hf : f_X1_leftOf x1 uC = some rr) : xMi l κ yX1_leftOf cX1_leftOf 2 (some .int) (xR 0 0 0) [.ref (xAd κ (26 * wa + 8)), .int x1] (upA wA wa (uP, uC, uD, uJ, ur, ut, ud, ug), wY) (upA wA wa (uP, uC, uD, uJ, ur, ut, ud, ug), wY) rr := by
  unfold f_X1_leftOf at hf
  refine xMi_of pn_X1 (Nat.le_of_ble_eq_true rfl) ⟨rfl, rfl⟩ ?_
  intro A p e s m args below meth c ls Q hc hw hl K
  have hc : xC κ A p s m args meth c cX1_leftOf RX1 2 (some .int) := hc
  have hx := hc.1.1
  have hb := hc.1.2.1
  have hl : lv_has ls 2 [(0, .ref (xAd κ (26 * wa + 8))), (1, .int x1)] := hl
  refine lv_aload_n hx hb dX1_leftOf_0 rfl (lv_at hl 0 rfl) ?_
  refine x_get (v := .ref (xAd κ (26 * wa + 11))) hc hw (ca_8 ha) fX1_22 rfl dX1_leftOf_1 ?_
  refine lv_iload_n hx hb dX1_leftOf_4 rfl (lv_at hl 1 rfl) ?_
  obtain ⟨k1, hf⟩ := xk_of hf
  refine x_iald (n := 12) (f := uC.2.2.2.1) hc hw (ca_11 ha) k1 dX1_leftOf_5 ?_
  refine lv_aload_n hx hb dX1_leftOf_6 rfl (lv_at hl 0 rfl) ?_
  refine x_get (v := .ref (xAd κ (26 * wa + 12))) hc hw (ca_8 ha) fX1_25 rfl dX1_leftOf_7 ?_
  refine lv_iload_n hx hb dX1_leftOf_10 rfl (lv_at hl 1 rfl) ?_
  obtain ⟨k2, hf⟩ := xk_of hf
  refine x_iald (n := 12) (f := uC.2.2.2.2.1) hc hw (ca_12 ha) k2 dX1_leftOf_11 ?_
  refine lv_isub hx hb dX1_leftOf_12 ?_
  refine lv_aload_n hx hb dX1_leftOf_13 rfl (lv_at hl 0 rfl) ?_
  refine x_get (v := .ref (xAd κ (26 * wa + 13))) hc hw (ca_8 ha) fX1_28 rfl dX1_leftOf_14 ?_
  refine lv_iload_n hx hb dX1_leftOf_17 rfl (lv_at hl 1 rfl) ?_
  obtain ⟨k3, hf⟩ := xk_of hf
  refine x_iald (n := 12) (f := uC.2.2.2.2.2.1) hc hw (ca_13 ha) k3 dX1_leftOf_18 ?_
  refine lv_isub hx hb dX1_leftOf_19 ?_
  refine lv_aload_n hx hb dX1_leftOf_20 rfl (lv_at hl 0 rfl) ?_
  refine x_get (v := .ref (xAd κ (26 * wa + 14))) hc hw (ca_8 ha) fX1_31 rfl dX1_leftOf_21 ?_
  refine lv_iload_n hx hb dX1_leftOf_24 rfl (lv_at hl 1 rfl) ?_
  obtain ⟨k4, hf⟩ := xk_of hf
  refine x_iald (n := 12) (f := uC.2.2.2.2.2.2) hc hw (ca_14 ha) k4 dX1_leftOf_25 ?_
  refine lv_isub hx hb dX1_leftOf_26 ?_
  cases hf
  exact K _ _ _ _ dX1_leftOf_27 rfl hw
def f_X4_shortOf (x1 : Int32) (uP : sPar) : Option Int64 :=
  xk (xin x1 6) (xk (xin x1 6) (some ((xmaxL 0 ((uP.2.2.2.1 x1.toNatClampNeg) - (uP.2.2.2.2.1 x1.toNatClampNeg))))))
set_option maxHeartbeats 4000000 in
set_option maxRecDepth 100000 in
theorem m_X4_shortOf {l : Launch} {κ : xKt} {wA : Nat → sAcc} {wa : Nat} {wY : sTxt × sRng × sMai × sRef × sOut} (ha : wa < 9)  {x1 : Int32} {uP : sPar} {uC : sCla} {uD : sDeb} {uJ : sJou} {ur : xF32} {ut : xF32} {ud : Int32} {ug : Int32} {rr : Int64} (hf : f_X4_shortOf x1 uP = some rr) : xMl l κ yX4_shortOf cX4_shortOf 2 (some .long) (xR 0 0 0) [.ref (xAd κ (26 * wa + 1)), .int x1] (upA wA wa (uP, uC, uD, uJ, ur, ut, ud, ug), wY) (upA wA wa (uP, uC, uD, uJ, ur, ut, ud, ug), wY) rr := by
  unfold f_X4_shortOf at hf
  refine xMl_of pn_X4 (Nat.le_of_ble_eq_true rfl) ⟨rfl, rfl⟩ ?_
  intro A p e s m args below meth c ls Q hc hw hl K
  have hc : xC κ A p s m args meth c cX4_shortOf RX4 2 (some .long) := hc
  have hx := hc.1.1
  have hb := hc.1.2.1
  have hl : lv_has ls 2 [(0, .ref (xAd κ (26 * wa + 1))), (1, .int x1)] := hl
  refine lv_lconst (v := 0) hx hb dX4_shortOf_0 (by decide) ?_
  refine lv_aload_n hx hb dX4_shortOf_1 rfl (lv_at hl 0 rfl) ?_
  refine x_get (v := .ref (xAd κ (26 * wa + 4))) hc hw (ca_1 ha) fX4_22 rfl dX4_shortOf_2 ?_
  refine lv_iload_n hx hb dX4_shortOf_5 rfl (lv_at hl 1 rfl) ?_
  obtain ⟨k1, hf⟩ := xk_of hf
  refine x_lald (n := 6) (f := uP.2.2.2.1) hc hw (ca_4 ha) k1 dX4_shortOf_6 ?_
  refine lv_aload_n hx hb dX4_shortOf_7 rfl (lv_at hl 0 rfl) ?_
  refine x_get (v := .ref (xAd κ (26 * wa + 5))) hc hw (ca_1 ha) fX4_26 rfl dX4_shortOf_8 ?_
  refine lv_iload_n hx hb dX4_shortOf_11 rfl (lv_at hl 1 rfl) ?_
  obtain ⟨k2, hf⟩ := xk_of hf
  refine x_lald (n := 6) (f := uP.2.2.2.2.1) hc hw (ca_5 ha) k2 dX4_shortOf_12 ?_
  refine lv_lsub hx hb dX4_shortOf_13 ?_
  refine x_maxL hc hl.1 mw_X4_45 ⟨Nat.le_of_ble_eq_true rfl, Nat.le_of_ble_eq_true rfl⟩ ⟨Nat.zero_le _, Nat.zero_le _⟩ dX4_shortOf_14 ?_
  cases hf
  exact K _ _ _ _ dX4_shortOf_17 hw
def f_X2_indexOf_2 (fu : Nat) (uD : sDeb) : Nat → (Int32) → (Int32) → (Int32) → Option Int32
  | 0, _, _, _ => none
  | n + 1, x1, x2, x3 => if uD.1 ≤ x3 then (some ((-1))) else (xk (xin x3 30) (if (uD.2.1 x3.toNatClampNeg) = x1 then (xk (xin x3 30) (if (uD.2.2.1 x3.toNatClampNeg) = x2 then (some x3) else (f_X2_indexOf_2 fu uD n x1 x2 (x3 + 1)))) else (f_X2_indexOf_2 fu uD n x1 x2 (x3 + 1))))
def f_X2_indexOf (fu : Nat) (x1 : Int32) (x2 : Int32) (uD : sDeb) : Option Int32 :=
  f_X2_indexOf_2 fu uD fu x1 x2 0
set_option maxHeartbeats 4000000 in
set_option maxRecDepth 100000 in
theorem l_X2_indexOf_2 {l : Launch} {κ : xKt} {wA : Nat → sAcc} {wa : Nat} {wY : sTxt × sRng × sMai × sRef × sOut} (ha : wa < 9) {fu : Nat} {uP : sPar} {uC : sCla} {uD : sDeb} {uJ : sJou} {ur : xF32} {ut : xF32} {ud : Int32} {ug : Int32} {A : Nat → Prop} {p : Program} {e : Env} {s : State} {m : MethodId} {args : Array Value} {below : List Frame} {meth : Method} {c : Code} {Q : State → Prop} {rr : Int32}
    (hc : xC κ A p s m args meth c cX2_indexOf RX2 4 (some .int))
    (K : ∀ (pc : Nat) (ls : Array Slot) (H : Heap) (locs : List Loc), decode cX2_indexOf pc = .ok (.ireturn, 1) → narrow .int (.int rr) = .int rr → xW κ A s (upA wA wa (uP, uC, uD, uJ, ur, ut, ud, ug), wY) H locs → W p l e (xR 0 0 0) s m args below meth c H locs 0 0 Q (F0 m pc ls [.int rr])) :
    ∀ (n : Nat) (x1 : Int32) (x2 : Int32) (x3 : Int32) (H : Heap) (locs : List Loc) (ls : Array Slot), f_X2_indexOf_2 fu uD n x1 x2 x3 = some rr → xW κ A s (upA wA wa (uP, uC, uD, uJ, ur, ut, ud, ug), wY) H locs → lv_has ls 4 [(0, .ref (xAd κ (26 * wa + 15))), (1, .int x1), (2, .int x2), (3, .int x3)] → W p l e (xR 0 0 0) s m args below meth c H locs 0 0 Q (F0 m 2 ls []) := by
  have hx := hc.1.1
  have hb := hc.1.2.1
  intro n
  induction n with
  | zero =>
    intro x1 x2 x3 H locs ls hf
    rw [f_X2_indexOf_2] at hf
    cases hf
  | succ n hi =>
    intro x1 x2 x3 H locs ls hf hw hl
    rw [f_X2_indexOf_2] at hf
    refine lv_iload_n hx hb dX2_indexOf_2 rfl (lv_at hl 3 rfl) ?_
    refine lv_aload_n hx hb dX2_indexOf_3 rfl (lv_at hl 0 rfl) ?_
    refine x_get (v := .int uD.1) hc hw (ca_15 ha) fX2_9 rfl dX2_indexOf_4 ?_
    refine lv_icmp_ge (tgt := 38) hx hb dX2_indexOf_7 (by decide) (fun c1 => ?_) (fun c1 => ?_)
    · have hf := xif_t c1 hf
      refine lv_iconst (v := (-1)) hx hb dX2_indexOf_38 (by decide) ?_
      cases hf
      exact K _ _ _ _ dX2_indexOf_39 rfl hw
    · have hf := xif_f c1 hf
      refine lv_aload_n hx hb dX2_indexOf_10 rfl (lv_at hl 0 rfl) ?_
      refine x_get (v := .ref (xAd κ (26 * wa + 16))) hc hw (ca_15 ha) fX2_15 rfl dX2_indexOf_11 ?_
      refine lv_iload_n hx hb dX2_indexOf_14 rfl (lv_at hl 3 rfl) ?_
      obtain ⟨k2, hf⟩ := xk_of hf
      refine x_iald (n := 30) (f := uD.2.1) hc hw (ca_16 ha) k2 dX2_indexOf_15 ?_
      refine lv_iload_n hx hb dX2_indexOf_16 rfl (lv_at hl 1 rfl) ?_
      refine lv_icmp_ne (tgt := 32) hx hb dX2_indexOf_17 (by decide) (fun c3 => ?_) (fun c3 => ?_)
      · have hf := xif_f c3 hf
        refine lv_iinc (v := (x3 + 1)) (lv' := [(3, .int (x3 + 1)), (0, .ref (xAd κ (26 * wa + 15))), (1, .int x1), (2, .int x2)]) hx hb dX2_indexOf_32 hl (k := 3) rfl rfl (by decide) rfl (fun ls hl => ?_)
        refine lv_goto (tgt := 2) hx hb dX2_indexOf_35 (by decide) ?_
        exact hi _ _ _ _ _ _ hf hw (lv_sub hl [1, 2, 3, 0] rfl)
      · have hf := xif_t c3 hf
        refine lv_aload_n hx hb dX2_indexOf_20 rfl (lv_at hl 0 rfl) ?_
        refine x_get (v := .ref (xAd κ (26 * wa + 17))) hc hw (ca_15 ha) fX2_19 rfl dX2_indexOf_21 ?_
        refine lv_iload_n hx hb dX2_indexOf_24 rfl (lv_at hl 3 rfl) ?_
        obtain ⟨k4, hf⟩ := xk_of hf
        refine x_iald (n := 30) (f := uD.2.2.1) hc hw (ca_17 ha) k4 dX2_indexOf_25 ?_
        refine lv_iload_n hx hb dX2_indexOf_26 rfl (lv_at hl 2 rfl) ?_
        refine lv_icmp_ne (tgt := 32) hx hb dX2_indexOf_27 (by decide) (fun c5 => ?_) (fun c5 => ?_)
        · have hf := xif_f c5 hf
          refine lv_iinc (v := (x3 + 1)) (lv' := [(3, .int (x3 + 1)), (0, .ref (xAd κ (26 * wa + 15))), (1, .int x1), (2, .int x2)]) hx hb dX2_indexOf_32 hl (k := 3) rfl rfl (by decide) rfl (fun ls hl => ?_)
          refine lv_goto (tgt := 2) hx hb dX2_indexOf_35 (by decide) ?_
          exact hi _ _ _ _ _ _ hf hw (lv_sub hl [1, 2, 3, 0] rfl)
        · have hf := xif_t c5 hf
          refine lv_iload_n hx hb dX2_indexOf_30 rfl (lv_at hl 3 rfl) ?_
          cases hf
          exact K _ _ _ _ dX2_indexOf_31 rfl hw
set_option maxHeartbeats 4000000 in
set_option maxRecDepth 100000 in
theorem m_X2_indexOf {l : Launch} {κ : xKt} {wA : Nat → sAcc} {wa : Nat} {wY : sTxt × sRng × sMai × sRef × sOut} (ha : wa < 9) {fu : Nat} {x1 : Int32} {x2 : Int32} {uP : sPar} {uC : sCla} {uD : sDeb} {uJ : sJou} {ur : xF32} {ut : xF32} {ud : Int32} {ug : Int32} {rr : Int32} (hf : f_X2_indexOf fu x1 x2 uD = some rr) : xMi l κ yX2_indexOf cX2_indexOf 4 (some .int) (xR 0 0 0) [.ref (xAd κ (26 * wa + 15)), .int x1, .int x2] (upA wA wa (uP, uC, uD, uJ, ur, ut, ud, ug), wY) (upA wA wa (uP, uC, uD, uJ, ur, ut, ud, ug), wY) rr := by
  unfold f_X2_indexOf at hf
  refine xMi_of pn_X2 (Nat.le_of_ble_eq_true rfl) ⟨rfl, rfl⟩ ?_
  intro A p e s m args below meth c ls Q hc hw hl K
  have hc : xC κ A p s m args meth c cX2_indexOf RX2 4 (some .int) := hc
  have hx := hc.1.1
  have hb := hc.1.2.1
  have hl : lv_has ls 4 [(0, .ref (xAd κ (26 * wa + 15))), (1, .int x1), (2, .int x2)] := hl
  refine lv_iconst (v := 0) hx hb dX2_indexOf_0 (by decide) ?_
  refine lv_istore_n (lv' := [(3, .int 0), (0, .ref (xAd κ (26 * wa + 15))), (1, .int x1), (2, .int x2)]) hx hb dX2_indexOf_1 rfl hl (by decide) rfl (fun ls hl => ?_)
  exact l_X2_indexOf_2 ha hc K fu _ _ _ _ _ _ hf hw (lv_sub hl [1, 2, 3, 0] rfl)
def f_X2_amountOf (x1 : Int32) (uD : sDeb) : Option Int64 :=
  xk (xin x1 30) (xk (xin x1 30) (some (((uD.2.2.2.1 x1.toNatClampNeg) + (uD.2.2.2.2.1 x1.toNatClampNeg)))))
set_option maxHeartbeats 4000000 in
set_option maxRecDepth 100000 in
theorem m_X2_amountOf {l : Launch} {κ : xKt} {wA : Nat → sAcc} {wa : Nat} {wY : sTxt × sRng × sMai × sRef × sOut} (ha : wa < 9)  {x1 : Int32} {uP : sPar} {uC : sCla} {uD : sDeb} {uJ : sJou} {ur : xF32} {ut : xF32} {ud : Int32} {ug : Int32} {rr : Int64} (hf : f_X2_amountOf x1 uD = some rr) : xMl l κ yX2_amountOf cX2_amountOf 2 (some .long) (xR 0 0 0) [.ref (xAd κ (26 * wa + 15)), .int x1] (upA wA wa (uP, uC, uD, uJ, ur, ut, ud, ug), wY) (upA wA wa (uP, uC, uD, uJ, ur, ut, ud, ug), wY) rr := by
  unfold f_X2_amountOf at hf
  refine xMl_of pn_X2 (Nat.le_of_ble_eq_true rfl) ⟨rfl, rfl⟩ ?_
  intro A p e s m args below meth c ls Q hc hw hl K
  have hc : xC κ A p s m args meth c cX2_amountOf RX2 2 (some .long) := hc
  have hx := hc.1.1
  have hb := hc.1.2.1
  have hl : lv_has ls 2 [(0, .ref (xAd κ (26 * wa + 15))), (1, .int x1)] := hl
  refine lv_aload_n hx hb dX2_amountOf_0 rfl (lv_at hl 0 rfl) ?_
  refine x_get (v := .ref (xAd κ (26 * wa + 18))) hc hw (ca_15 ha) fX2_22 rfl dX2_amountOf_1 ?_
  refine lv_iload_n hx hb dX2_amountOf_4 rfl (lv_at hl 1 rfl) ?_
  obtain ⟨k1, hf⟩ := xk_of hf
  refine x_lald (n := 30) (f := uD.2.2.2.1) hc hw (ca_18 ha) k1 dX2_amountOf_5 ?_
  refine lv_aload_n hx hb dX2_amountOf_6 rfl (lv_at hl 0 rfl) ?_
  refine x_get (v := .ref (xAd κ (26 * wa + 19))) hc hw (ca_15 ha) fX2_26 rfl dX2_amountOf_7 ?_
  refine lv_iload_n hx hb dX2_amountOf_10 rfl (lv_at hl 1 rfl) ?_
  obtain ⟨k2, hf⟩ := xk_of hf
  refine x_lald (n := 30) (f := uD.2.2.2.2.1) hc hw (ca_19 ha) k2 dX2_amountOf_11 ?_
  refine lv_ladd hx hb dX2_amountOf_12 ?_
  cases hf
  exact K _ _ _ _ dX2_amountOf_13 hw
def f_X2_owedBy (fu : Nat) (x1 : Int32) (x2 : Int32) (uD : sDeb) : Option Int64 :=
  xb1 (f_X2_indexOf fu x1 x2 uD) fun v1 => (if v1 = (-1) then (some 0) else (xb1 (f_X2_amountOf v1 uD) fun v4 => (some v4)))
set_option maxHeartbeats 4000000 in
set_option maxRecDepth 100000 in
theorem m_X2_owedBy {l : Launch} {κ : xKt} {wA : Nat → sAcc} {wa : Nat} {wY : sTxt × sRng × sMai × sRef × sOut} (ha : wa < 9) {fu : Nat} {x1 : Int32} {x2 : Int32} {uP : sPar} {uC : sCla} {uD : sDeb} {uJ : sJou} {ur : xF32} {ut : xF32} {ud : Int32} {ug : Int32} {rr : Int64} (hf : f_X2_owedBy fu x1 x2 uD = some rr) : xMl l κ yX2_owedBy cX2_owedBy 4 (some .long) (xR 1 0 0) [.ref (xAd κ (26 * wa + 15)), .int x1, .int x2] (upA wA wa (uP, uC, uD, uJ, ur, ut, ud, ug), wY) (upA wA wa (uP, uC, uD, uJ, ur, ut, ud, ug), wY) rr := by
  unfold f_X2_owedBy at hf
  refine xMl_of pn_X2 (Nat.le_of_ble_eq_true rfl) ⟨rfl, rfl⟩ ?_
  intro A p e s m args below meth c ls Q hc hw hl K
  have hc : xC κ A p s m args meth c cX2_owedBy RX2 4 (some .long) := hc
  have hx := hc.1.1
  have hb := hc.1.2.1
  have hl : lv_has ls 4 [(0, .ref (xAd κ (26 * wa + 15))), (1, .int x1), (2, .int x2)] := hl
  refine lv_aload_n hx hb dX2_owedBy_0 rfl (lv_at hl 0 rfl) ?_
  refine lv_iload_n hx hb dX2_owedBy_1 rfl (lv_at hl 1 rfl) ?_
  refine lv_iload_n hx hb dX2_owedBy_2 rfl (lv_at hl 2 rfl) ?_
  obtain ⟨v1, h2, hf⟩ := xb1_of hf
  refine x_calliV (As := [.int x1, .int x2]) (rest := []) (σ' := (upA wA wa (uP, uC, uD, uJ, ur, ut, ud, ug), wY)) hc hw hl.1 (m_X2_indexOf ha h2) kX2_38 (ca_15 ha) rfl rfl ⟨rfl, rfl⟩ ⟨Nat.le_of_ble_eq_true rfl, Nat.le_of_ble_eq_true rfl⟩ ⟨Nat.zero_le _, Nat.zero_le _⟩ (Nat.le_of_ble_eq_true rfl) dX2_owedBy_3 (fun H locs hw => ?_)
  refine lv_istore_n (lv' := [(3, .int v1), (0, .ref (xAd κ (26 * wa + 15))), (1, .int x1), (2, .int x2)]) hx hb dX2_owedBy_6 rfl hl (by decide) rfl (fun ls hl => ?_)
  refine lv_iload_n hx hb dX2_owedBy_7 rfl (lv_at hl 0 rfl) ?_
  refine lv_iconst (v := (-1)) hx hb dX2_owedBy_8 (by decide) ?_
  refine lv_icmp_ne (tgt := 16) hx hb dX2_owedBy_9 (by decide) (fun c3 => ?_) (fun c3 => ?_)
  · have hf := xif_f c3 hf
    refine lv_aload_n hx hb dX2_owedBy_16 rfl (lv_at hl 1 rfl) ?_
    refine lv_iload_n hx hb dX2_owedBy_17 rfl (lv_at hl 0 rfl) ?_
    obtain ⟨v4, h5, hf⟩ := xb1_of hf
    refine x_calllV (As := [.int v1]) (rest := []) (σ' := (upA wA wa (uP, uC, uD, uJ, ur, ut, ud, ug), wY)) hc hw hl.1 (m_X2_amountOf ha h5) kX2_42 (ca_15 ha) rfl rfl ⟨rfl, rfl⟩ ⟨Nat.le_of_ble_eq_true rfl, Nat.le_of_ble_eq_true rfl⟩ ⟨Nat.zero_le _, Nat.zero_le _⟩ (Nat.le_of_ble_eq_true rfl) dX2_owedBy_18 (fun H locs hw => ?_)
    cases hf
    exact K _ _ _ _ dX2_owedBy_21 hw
  · have hf := xif_t c3 hf
    refine lv_lconst (v := 0) hx hb dX2_owedBy_12 (by decide) ?_
    refine lv_goto (tgt := 21) hx hb dX2_owedBy_13 (by decide) ?_
    cases hf
    exact K _ _ _ _ dX2_owedBy_21 hw
def f_X2_increase (fu : Nat) (x1 : Int32) (x2 : Int32) (x3 : Int64) (uD : sDeb) : Option sDeb :=
  xb1 (f_X2_indexOf fu x1 x2 uD) fun v1 => (if v1 = (-1) then (if 30 ≤ uD.1 then (some uD) else (xk (xin uD.1 30) (xk (xin uD.1 30) (xk (xin uD.1 30) (xk (xin uD.1 30) (xk (xin uD.1 30) (some (((uD.1 + 1), (upd uD.2.1 uD.1.toNatClampNeg x1), (upd uD.2.2.1 uD.1.toNatClampNeg x2), (vp_updL uD.2.2.2.1 uD.1.toNatClampNeg x3), (vp_updL uD.2.2.2.2.1 uD.1.toNatClampNeg 0), (vp_updL uD.2.2.2.2.2 uD.1.toNatClampNeg 0)))))))))) else (xk (xin v1 30) (xk (xin v1 30) (some ((uD.1, uD.2.1, uD.2.2.1, (vp_updL uD.2.2.2.1 v1.toNatClampNeg ((uD.2.2.2.1 v1.toNatClampNeg) + x3)), uD.2.2.2.2.1, uD.2.2.2.2.2))))))
set_option maxHeartbeats 4000000 in
set_option maxRecDepth 100000 in
theorem m_X2_increase {l : Launch} {κ : xKt} {wA : Nat → sAcc} {wa : Nat} {wY : sTxt × sRng × sMai × sRef × sOut} (ha : wa < 9) {fu : Nat} {x1 : Int32} {x2 : Int32} {x3 : Int64} {uP : sPar} {uC : sCla} {uD : sDeb} {uJ : sJou} {ur : xF32} {ut : xF32} {ud : Int32} {ug : Int32} {yD : sDeb} (hf : f_X2_increase fu x1 x2 x3 uD = some yD) : xMv l κ yX2_increase cX2_increase 6 none (xR 1 0 0) [.ref (xAd κ (26 * wa + 15)), .int x1, .int x2, .long x3] (upA wA wa (uP, uC, uD, uJ, ur, ut, ud, ug), wY) (upA wA wa (uP, uC, yD, uJ, ur, ut, ud, ug), wY) := by
  unfold f_X2_increase at hf
  refine xMv_of pn_X2 (Nat.le_of_ble_eq_true rfl) ⟨rfl, rfl⟩ ?_
  intro A p e s m args below meth c ls Q hc hw hl K
  have hc : xC κ A p s m args meth c cX2_increase RX2 6 none := hc
  have hx := hc.1.1
  have hb := hc.1.2.1
  have hl : lv_has ls 6 [(0, .ref (xAd κ (26 * wa + 15))), (1, .int x1), (2, .int x2), (3, .long x3)] := hl
  refine lv_aload_n hx hb dX2_increase_0 rfl (lv_at hl 0 rfl) ?_
  refine lv_iload_n hx hb dX2_increase_1 rfl (lv_at hl 1 rfl) ?_
  refine lv_iload_n hx hb dX2_increase_2 rfl (lv_at hl 2 rfl) ?_
  obtain ⟨v1, h2, hf⟩ := xb1_of hf
  refine x_calliV (As := [.int x1, .int x2]) (rest := []) (σ' := (upA wA wa (uP, uC, uD, uJ, ur, ut, ud, ug), wY)) hc hw hl.1 (m_X2_indexOf ha h2) kX2_38 (ca_15 ha) rfl rfl ⟨rfl, rfl⟩ ⟨Nat.le_of_ble_eq_true rfl, Nat.le_of_ble_eq_true rfl⟩ ⟨Nat.zero_le _, Nat.zero_le _⟩ (Nat.le_of_ble_eq_true rfl) dX2_increase_3 (fun H locs hw => ?_)
  refine lv_istore (lv' := [(5, .int v1), (0, .ref (xAd κ (26 * wa + 15))), (1, .int x1), (2, .int x2), (3, .long x3)]) hx hb dX2_increase_6 hl (by decide) rfl (fun ls hl => ?_)
  refine lv_iload hx hb dX2_increase_8 (lv_at hl 0 rfl) ?_
  refine lv_iconst (v := (-1)) hx hb dX2_increase_10 (by decide) ?_
  refine lv_icmp_eq (tgt := 28) hx hb dX2_increase_11 (by decide) (fun c3 => ?_) (fun c3 => ?_)
  · have hf := xif_t c3 hf
    refine lv_aload_n hx hb dX2_increase_28 rfl (lv_at hl 1 rfl) ?_
    refine x_get (v := .int uD.1) hc hw (ca_15 ha) fX2_9 rfl dX2_increase_29 ?_
    refine lv_bipush (v := 30) hx hb dX2_increase_32 (by decide) ?_
    refine lv_icmp_ge (tgt := 97) hx hb dX2_increase_34 (by decide) (fun c4 => ?_) (fun c4 => ?_)
    · have hf := xif_t c4 hf
      cases hf
      exact K _ _ _ _ dX2_increase_97 hw
    · have hf := xif_f c4 hf
      refine lv_aload_n hx hb dX2_increase_37 rfl (lv_at hl 1 rfl) ?_
      refine x_get (v := .ref (xAd κ (26 * wa + 16))) hc hw (ca_15 ha) fX2_15 rfl dX2_increase_38 ?_
      refine lv_aload_n hx hb dX2_increase_41 rfl (lv_at hl 1 rfl) ?_
      refine x_get (v := .int uD.1) hc hw (ca_15 ha) fX2_9 rfl dX2_increase_42 ?_
      refine lv_iload_n hx hb dX2_increase_45 rfl (lv_at hl 2 rfl) ?_
      obtain ⟨k5, hf⟩ := xk_of hf
      refine x_iast (n := 30) (f := uD.2.1) (σ' := (upA wA wa (uP, uC, (uD.1, (upd uD.2.1 uD.1.toNatClampNeg x1), uD.2.2.1, uD.2.2.2.1, uD.2.2.2.2.1, uD.2.2.2.2.2), uJ, ur, ut, ud, ug), wY)) hc hw (ca_16 ha) k5 (sa_2_1 ha) dX2_increase_46 (fun H locs hw => ?_)
      refine lv_aload_n hx hb dX2_increase_47 rfl (lv_at hl 1 rfl) ?_
      refine x_get (v := .ref (xAd κ (26 * wa + 17))) hc hw (ca_15 ha) fX2_19 rfl dX2_increase_48 ?_
      refine lv_aload_n hx hb dX2_increase_51 rfl (lv_at hl 1 rfl) ?_
      refine x_get (v := .int uD.1) hc hw (ca_15 ha) fX2_9 rfl dX2_increase_52 ?_
      refine lv_iload_n hx hb dX2_increase_55 rfl (lv_at hl 3 rfl) ?_
      obtain ⟨k6, hf⟩ := xk_of hf
      refine x_iast (n := 30) (f := uD.2.2.1) (σ' := (upA wA wa (uP, uC, (uD.1, (upd uD.2.1 uD.1.toNatClampNeg x1), (upd uD.2.2.1 uD.1.toNatClampNeg x2), uD.2.2.2.1, uD.2.2.2.2.1, uD.2.2.2.2.2), uJ, ur, ut, ud, ug), wY)) hc hw (ca_17 ha) k6 (sa_2_2 ha) dX2_increase_56 (fun H locs hw => ?_)
      refine lv_aload_n hx hb dX2_increase_57 rfl (lv_at hl 1 rfl) ?_
      refine x_get (v := .ref (xAd κ (26 * wa + 18))) hc hw (ca_15 ha) fX2_22 rfl dX2_increase_58 ?_
      refine lv_aload_n hx hb dX2_increase_61 rfl (lv_at hl 1 rfl) ?_
      refine x_get (v := .int uD.1) hc hw (ca_15 ha) fX2_9 rfl dX2_increase_62 ?_
      refine lv_lload_n hx hb dX2_increase_65 rfl (lv_at hl 4 rfl) ?_
      obtain ⟨k7, hf⟩ := xk_of hf
      refine x_last (n := 30) (f := uD.2.2.2.1) (σ' := (upA wA wa (uP, uC, (uD.1, (upd uD.2.1 uD.1.toNatClampNeg x1), (upd uD.2.2.1 uD.1.toNatClampNeg x2), (vp_updL uD.2.2.2.1 uD.1.toNatClampNeg x3), uD.2.2.2.2.1, uD.2.2.2.2.2), uJ, ur, ut, ud, ug), wY)) hc hw (ca_18 ha) k7 (sa_2_3 ha) dX2_increase_66 (fun H locs hw => ?_)
      refine lv_aload_n hx hb dX2_increase_67 rfl (lv_at hl 1 rfl) ?_
      refine x_get (v := .ref (xAd κ (26 * wa + 19))) hc hw (ca_15 ha) fX2_26 rfl dX2_increase_68 ?_
      refine lv_aload_n hx hb dX2_increase_71 rfl (lv_at hl 1 rfl) ?_
      refine x_get (v := .int uD.1) hc hw (ca_15 ha) fX2_9 rfl dX2_increase_72 ?_
      refine lv_lconst (v := 0) hx hb dX2_increase_75 (by decide) ?_
      obtain ⟨k8, hf⟩ := xk_of hf
      refine x_last (n := 30) (f := uD.2.2.2.2.1) (σ' := (upA wA wa (uP, uC, (uD.1, (upd uD.2.1 uD.1.toNatClampNeg x1), (upd uD.2.2.1 uD.1.toNatClampNeg x2), (vp_updL uD.2.2.2.1 uD.1.toNatClampNeg x3), (vp_updL uD.2.2.2.2.1 uD.1.toNatClampNeg 0), uD.2.2.2.2.2), uJ, ur, ut, ud, ug), wY)) hc hw (ca_19 ha) k8 (sa_2_4 ha) dX2_increase_76 (fun H locs hw => ?_)
      refine lv_aload_n hx hb dX2_increase_77 rfl (lv_at hl 1 rfl) ?_
      refine x_get (v := .ref (xAd κ (26 * wa + 20))) hc hw (ca_15 ha) fX2_29 rfl dX2_increase_78 ?_
      refine lv_aload_n hx hb dX2_increase_81 rfl (lv_at hl 1 rfl) ?_
      refine x_get (v := .int uD.1) hc hw (ca_15 ha) fX2_9 rfl dX2_increase_82 ?_
      refine lv_lconst (v := 0) hx hb dX2_increase_85 (by decide) ?_
      obtain ⟨k9, hf⟩ := xk_of hf
      refine x_last (n := 30) (f := uD.2.2.2.2.2) (σ' := (upA wA wa (uP, uC, (uD.1, (upd uD.2.1 uD.1.toNatClampNeg x1), (upd uD.2.2.1 uD.1.toNatClampNeg x2), (vp_updL uD.2.2.2.1 uD.1.toNatClampNeg x3), (vp_updL uD.2.2.2.2.1 uD.1.toNatClampNeg 0), (vp_updL uD.2.2.2.2.2 uD.1.toNatClampNeg 0)), uJ, ur, ut, ud, ug), wY)) hc hw (ca_20 ha) k9 (sa_2_5 ha) dX2_increase_86 (fun H locs hw => ?_)
      refine lv_aload_n hx hb dX2_increase_87 rfl (lv_at hl 1 rfl) ?_
      refine lv_dup hx hb dX2_increase_88 rfl ?_
      refine x_get (v := .int uD.1) hc hw (ca_15 ha) fX2_9 rfl dX2_increase_89 ?_
      refine lv_iconst (v := 1) hx hb dX2_increase_92 (by decide) ?_
      refine lv_iadd hx hb dX2_increase_93 ?_
      refine x_put (σ' := (upA wA wa (uP, uC, ((uD.1 + 1), (upd uD.2.1 uD.1.toNatClampNeg x1), (upd uD.2.2.1 uD.1.toNatClampNeg x2), (vp_updL uD.2.2.2.1 uD.1.toNatClampNeg x3), (vp_updL uD.2.2.2.2.1 uD.1.toNatClampNeg 0), (vp_updL uD.2.2.2.2.2 uD.1.toNatClampNeg 0)), uJ, ur, ut, ud, ug), wY)) hc hw (ca_15 ha) fX2_9 rfl rfl (Nat.le_of_ble_eq_true rfl) (sa_2_0 ha) dX2_increase_94 (fun H locs hw => ?_)
      cases hf
      exact K _ _ _ _ dX2_increase_97 hw
  · have hf := xif_f c3 hf
    refine lv_aload_n hx hb dX2_increase_14 rfl (lv_at hl 1 rfl) ?_
    refine x_get (v := .ref (xAd κ (26 * wa + 18))) hc hw (ca_15 ha) fX2_22 rfl dX2_increase_15 ?_
    refine lv_iload hx hb dX2_increase_18 (lv_at hl 0 rfl) ?_
    refine lv_dup2_11 hx hb dX2_increase_20 rfl rfl ?_
    obtain ⟨k10, hf⟩ := xk_of hf
    refine x_lald (n := 30) (f := uD.2.2.2.1) hc hw (ca_18 ha) k10 dX2_increase_21 ?_
    refine lv_lload_n hx hb dX2_increase_22 rfl (lv_at hl 4 rfl) ?_
    refine lv_ladd hx hb dX2_increase_23 ?_
    obtain ⟨k11, hf⟩ := xk_of hf
    refine x_last (n := 30) (f := uD.2.2.2.1) (σ' := (upA wA wa (uP, uC, (uD.1, uD.2.1, uD.2.2.1, (vp_updL uD.2.2.2.1 v1.toNatClampNeg ((uD.2.2.2.1 v1.toNatClampNeg) + x3)), uD.2.2.2.2.1, uD.2.2.2.2.2), uJ, ur, ut, ud, ug), wY)) hc hw (ca_18 ha) k11 (sa_2_3 ha) dX2_increase_24 (fun H locs hw => ?_)
    refine lv_goto (tgt := 97) hx hb dX2_increase_25 (by decide) ?_
    cases hf
    exact K _ _ _ _ dX2_increase_97 hw
def f_X3_forgetOldest_8 (fu : Nat) : Nat → (Int32) → (sJou) → Option sJou
  | 0, _, _ => none
  | n + 1, x1, uJ => if uJ.1 ≤ x1 then (some uJ) else (xk (xin (x1 + 1) 16) (xk (xin x1 16) (xk (xin (x1 + 1) 16) (xk (xin x1 16) (f_X3_forgetOldest_8 fu n (x1 + 1) (uJ.1, (upd uJ.2.1 x1.toNatClampNeg (uJ.2.1 (x1 + 1).toNatClampNeg)), (vp_updL uJ.2.2 x1.toNatClampNeg (uJ.2.2 (x1 + 1).toNatClampNeg))))))))
def f_X3_forgetOldest (fu : Nat) (uJ : sJou) : Option sJou :=
  f_X3_forgetOldest_8 fu fu 0 (15, uJ.2.1, uJ.2.2)
set_option maxHeartbeats 4000000 in
set_option maxRecDepth 100000 in
theorem l_X3_forgetOldest_8 {l : Launch} {κ : xKt} {wA : Nat → sAcc} {wa : Nat} {wY : sTxt × sRng × sMai × sRef × sOut} (ha : wa < 9) {fu : Nat} {uP : sPar} {uC : sCla} {uD : sDeb} {ur : xF32} {ut : xF32} {ud : Int32} {ug : Int32} {A : Nat → Prop} {p : Program} {e : Env} {s : State} {m : MethodId} {args : Array Value} {below : List Frame} {meth : Method} {c : Code} {Q : State → Prop} {yJ : sJou}
    (hc : xC κ A p s m args meth c cX3_forgetOldest RX3 2 none)
    (K : ∀ (pc : Nat) (ls : Array Slot) (H : Heap) (locs : List Loc), decode cX3_forgetOldest pc = .ok (.return_, 1) → xW κ A s (upA wA wa (uP, uC, uD, yJ, ur, ut, ud, ug), wY) H locs → W p l e (xR 0 0 0) s m args below meth c H locs 0 0 Q (F0 m pc ls [])) :
    ∀ (n : Nat) (x1 : Int32) (uJ : sJou) (H : Heap) (locs : List Loc) (ls : Array Slot), f_X3_forgetOldest_8 fu n x1 uJ = some yJ → xW κ A s (upA wA wa (uP, uC, uD, uJ, ur, ut, ud, ug), wY) H locs → lv_has ls 2 [(0, .ref (xAd κ (26 * wa + 21))), (1, .int x1)] → W p l e (xR 0 0 0) s m args below meth c H locs 0 0 Q (F0 m 8 ls []) := by
  have hx := hc.1.1
  have hb := hc.1.2.1
  intro n
  induction n with
  | zero =>
    intro x1 uJ H locs ls hf
    rw [f_X3_forgetOldest_8] at hf
    cases hf
  | succ n hi =>
    intro x1 uJ H locs ls hf hw hl
    rw [f_X3_forgetOldest_8] at hf
    refine lv_iload_n hx hb dX3_forgetOldest_8 rfl (lv_at hl 1 rfl) ?_
    refine lv_aload_n hx hb dX3_forgetOldest_9 rfl (lv_at hl 0 rfl) ?_
    refine x_get (v := .int uJ.1) hc hw (ca_21 ha) fX3_9 rfl dX3_forgetOldest_10 ?_
    refine lv_icmp_ge (tgt := 50) hx hb dX3_forgetOldest_13 (by decide) (fun c1 => ?_) (fun c1 => ?_)
    · have hf := xif_t c1 hf
      cases hf
      exact K _ _ _ _ dX3_forgetOldest_50 hw
    · have hf := xif_f c1 hf
      refine lv_aload_n hx hb dX3_forgetOldest_16 rfl (lv_at hl 0 rfl) ?_
      refine x_get (v := .ref (xAd κ (26 * wa + 22))) hc hw (ca_21 ha) fX3_15 rfl dX3_forgetOldest_17 ?_
      refine lv_iload_n hx hb dX3_forgetOldest_20 rfl (lv_at hl 1 rfl) ?_
      refine lv_aload_n hx hb dX3_forgetOldest_21 rfl (lv_at hl 0 rfl) ?_
      refine x_get (v := .ref (xAd κ (26 * wa + 22))) hc hw (ca_21 ha) fX3_15 rfl dX3_forgetOldest_22 ?_
      refine lv_iload_n hx hb dX3_forgetOldest_25 rfl (lv_at hl 1 rfl) ?_
      refine lv_iconst (v := 1) hx hb dX3_forgetOldest_26 (by decide) ?_
      refine lv_iadd hx hb dX3_forgetOldest_27 ?_
      obtain ⟨k2, hf⟩ := xk_of hf
      refine x_iald (n := 16) (f := uJ.2.1) hc hw (ca_22 ha) k2 dX3_forgetOldest_28 ?_
      obtain ⟨k3, hf⟩ := xk_of hf
      refine x_iast (n := 16) (f := uJ.2.1) (σ' := (upA wA wa (uP, uC, uD, (uJ.1, (upd uJ.2.1 x1.toNatClampNeg (uJ.2.1 (x1 + 1).toNatClampNeg)), uJ.2.2), ur, ut, ud, ug), wY)) hc hw (ca_22 ha) k3 (sa_3_1 ha) dX3_forgetOldest_29 (fun H locs hw => ?_)
      refine lv_aload_n hx hb dX3_forgetOldest_30 rfl (lv_at hl 0 rfl) ?_
      refine x_get (v := .ref (xAd κ (26 * wa + 23))) hc hw (ca_21 ha) fX3_19 rfl dX3_forgetOldest_31 ?_
      refine lv_iload_n hx hb dX3_forgetOldest_34 rfl (lv_at hl 1 rfl) ?_
      refine lv_aload_n hx hb dX3_forgetOldest_35 rfl (lv_at hl 0 rfl) ?_
      refine x_get (v := .ref (xAd κ (26 * wa + 23))) hc hw (ca_21 ha) fX3_19 rfl dX3_forgetOldest_36 ?_
      refine lv_iload_n hx hb dX3_forgetOldest_39 rfl (lv_at hl 1 rfl) ?_
      refine lv_iconst (v := 1) hx hb dX3_forgetOldest_40 (by decide) ?_
      refine lv_iadd hx hb dX3_forgetOldest_41 ?_
      obtain ⟨k4, hf⟩ := xk_of hf
      refine x_lald (n := 16) (f := uJ.2.2) hc hw (ca_23 ha) k4 dX3_forgetOldest_42 ?_
      obtain ⟨k5, hf⟩ := xk_of hf
      refine x_last (n := 16) (f := uJ.2.2) (σ' := (upA wA wa (uP, uC, uD, (uJ.1, (upd uJ.2.1 x1.toNatClampNeg (uJ.2.1 (x1 + 1).toNatClampNeg)), (vp_updL uJ.2.2 x1.toNatClampNeg (uJ.2.2 (x1 + 1).toNatClampNeg))), ur, ut, ud, ug), wY)) hc hw (ca_23 ha) k5 (sa_3_2 ha) dX3_forgetOldest_43 (fun H locs hw => ?_)
      refine lv_iinc (v := (x1 + 1)) (lv' := [(1, .int (x1 + 1)), (0, .ref (xAd κ (26 * wa + 21)))]) hx hb dX3_forgetOldest_44 hl (k := 1) rfl rfl (by decide) rfl (fun ls hl => ?_)
      refine lv_goto (tgt := 8) hx hb dX3_forgetOldest_47 (by decide) ?_
      exact hi _ _ _ _ _ hf hw (lv_sub hl [1, 0] rfl)
set_option maxHeartbeats 4000000 in
set_option maxRecDepth 100000 in
theorem m_X3_forgetOldest {l : Launch} {κ : xKt} {wA : Nat → sAcc} {wa : Nat} {wY : sTxt × sRng × sMai × sRef × sOut} (ha : wa < 9) {fu : Nat} {uP : sPar} {uC : sCla} {uD : sDeb} {uJ : sJou} {ur : xF32} {ut : xF32} {ud : Int32} {ug : Int32} {yJ : sJou} (hf : f_X3_forgetOldest fu uJ = some yJ) : xMv l κ yX3_forgetOldest cX3_forgetOldest 2 none (xR 0 0 0) [.ref (xAd κ (26 * wa + 21))] (upA wA wa (uP, uC, uD, uJ, ur, ut, ud, ug), wY) (upA wA wa (uP, uC, uD, yJ, ur, ut, ud, ug), wY) := by
  unfold f_X3_forgetOldest at hf
  refine xMv_of pn_X3 (Nat.le_of_ble_eq_true rfl) ⟨rfl, rfl⟩ ?_
  intro A p e s m args below meth c ls Q hc hw hl K
  have hc : xC κ A p s m args meth c cX3_forgetOldest RX3 2 none := hc
  have hx := hc.1.1
  have hb := hc.1.2.1
  have hl : lv_has ls 2 [(0, .ref (xAd κ (26 * wa + 21)))] := hl
  refine lv_aload_n hx hb dX3_forgetOldest_0 rfl (lv_at hl 0 rfl) ?_
  refine lv_bipush (v := 15) hx hb dX3_forgetOldest_1 (by decide) ?_
  refine x_put (σ' := (upA wA wa (uP, uC, uD, (15, uJ.2.1, uJ.2.2), ur, ut, ud, ug), wY)) hc hw (ca_21 ha) fX3_9 rfl rfl (Nat.le_of_ble_eq_true rfl) (sa_3_0 ha) dX3_forgetOldest_3 (fun H locs hw => ?_)
  refine lv_iconst (v := 0) hx hb dX3_forgetOldest_6 (by decide) ?_
  refine lv_istore_n (lv' := [(1, .int 0), (0, .ref (xAd κ (26 * wa + 21)))]) hx hb dX3_forgetOldest_7 rfl hl (by decide) rfl (fun ls hl => ?_)
  exact l_X3_forgetOldest_8 ha hc K fu _ _ _ _ _ hf hw (lv_sub hl [1, 0] rfl)
def f_X3_addOne (fu : Nat) (x1 : Int32) (x2 : Int64) (uJ : sJou) : Option sJou :=
  if uJ.1 < 16 then (xk (xin uJ.1 16) (xk (xin uJ.1 16) (some (((uJ.1 + 1), (upd uJ.2.1 uJ.1.toNatClampNeg x1), (vp_updL uJ.2.2 uJ.1.toNatClampNeg x2)))))) else (xb1 (f_X3_forgetOldest fu uJ) fun uJ_4 => (xk (xin uJ_4.1 16) (xk (xin uJ_4.1 16) (some (((uJ_4.1 + 1), (upd uJ_4.2.1 uJ_4.1.toNatClampNeg x1), (vp_updL uJ_4.2.2 uJ_4.1.toNatClampNeg x2)))))))
set_option maxHeartbeats 4000000 in
set_option maxRecDepth 100000 in
theorem m_X3_addOne {l : Launch} {κ : xKt} {wA : Nat → sAcc} {wa : Nat} {wY : sTxt × sRng × sMai × sRef × sOut} (ha : wa < 9) {fu : Nat} {x1 : Int32} {x2 : Int64} {uP : sPar} {uC : sCla} {uD : sDeb} {uJ : sJou} {ur : xF32} {ut : xF32} {ud : Int32} {ug : Int32} {yJ : sJou} (hf : f_X3_addOne fu x1 x2 uJ = some yJ) : xMv l κ yX3_addOne cX3_addOne 4 none (xR 1 0 0) [.ref (xAd κ (26 * wa + 21)), .int x1, .long x2] (upA wA wa (uP, uC, uD, uJ, ur, ut, ud, ug), wY) (upA wA wa (uP, uC, uD, yJ, ur, ut, ud, ug), wY) := by
  unfold f_X3_addOne at hf
  refine xMv_of pn_X3 (Nat.le_of_ble_eq_true rfl) ⟨rfl, rfl⟩ ?_
  intro A p e s m args below meth c ls Q hc hw hl K
  have hc : xC κ A p s m args meth c cX3_addOne RX3 4 none := hc
  have hx := hc.1.1
  have hb := hc.1.2.1
  have hl : lv_has ls 4 [(0, .ref (xAd κ (26 * wa + 21))), (1, .int x1), (2, .long x2)] := hl
  refine lv_aload_n hx hb dX3_addOne_0 rfl (lv_at hl 0 rfl) ?_
  refine x_get (v := .int uJ.1) hc hw (ca_21 ha) fX3_9 rfl dX3_addOne_1 ?_
  refine lv_bipush (v := 16) hx hb dX3_addOne_4 (by decide) ?_
  refine lv_icmp_lt (tgt := 13) hx hb dX3_addOne_6 (by decide) (fun c1 => ?_) (fun c1 => ?_)
  · have hf := xif_t c1 hf
    refine lv_aload_n hx hb dX3_addOne_13 rfl (lv_at hl 0 rfl) ?_
    refine x_get (v := .ref (xAd κ (26 * wa + 22))) hc hw (ca_21 ha) fX3_15 rfl dX3_addOne_14 ?_
    refine lv_aload_n hx hb dX3_addOne_17 rfl (lv_at hl 0 rfl) ?_
    refine x_get (v := .int uJ.1) hc hw (ca_21 ha) fX3_9 rfl dX3_addOne_18 ?_
    refine lv_iload_n hx hb dX3_addOne_21 rfl (lv_at hl 1 rfl) ?_
    obtain ⟨k2, hf⟩ := xk_of hf
    refine x_iast (n := 16) (f := uJ.2.1) (σ' := (upA wA wa (uP, uC, uD, (uJ.1, (upd uJ.2.1 uJ.1.toNatClampNeg x1), uJ.2.2), ur, ut, ud, ug), wY)) hc hw (ca_22 ha) k2 (sa_3_1 ha) dX3_addOne_22 (fun H locs hw => ?_)
    refine lv_aload_n hx hb dX3_addOne_23 rfl (lv_at hl 0 rfl) ?_
    refine x_get (v := .ref (xAd κ (26 * wa + 23))) hc hw (ca_21 ha) fX3_19 rfl dX3_addOne_24 ?_
    refine lv_aload_n hx hb dX3_addOne_27 rfl (lv_at hl 0 rfl) ?_
    refine x_get (v := .int uJ.1) hc hw (ca_21 ha) fX3_9 rfl dX3_addOne_28 ?_
    refine lv_lload_n hx hb dX3_addOne_31 rfl (lv_at hl 2 rfl) ?_
    obtain ⟨k3, hf⟩ := xk_of hf
    refine x_last (n := 16) (f := uJ.2.2) (σ' := (upA wA wa (uP, uC, uD, (uJ.1, (upd uJ.2.1 uJ.1.toNatClampNeg x1), (vp_updL uJ.2.2 uJ.1.toNatClampNeg x2)), ur, ut, ud, ug), wY)) hc hw (ca_23 ha) k3 (sa_3_2 ha) dX3_addOne_32 (fun H locs hw => ?_)
    refine lv_aload_n hx hb dX3_addOne_33 rfl (lv_at hl 0 rfl) ?_
    refine lv_dup hx hb dX3_addOne_34 rfl ?_
    refine x_get (v := .int uJ.1) hc hw (ca_21 ha) fX3_9 rfl dX3_addOne_35 ?_
    refine lv_iconst (v := 1) hx hb dX3_addOne_38 (by decide) ?_
    refine lv_iadd hx hb dX3_addOne_39 ?_
    refine x_put (σ' := (upA wA wa (uP, uC, uD, ((uJ.1 + 1), (upd uJ.2.1 uJ.1.toNatClampNeg x1), (vp_updL uJ.2.2 uJ.1.toNatClampNeg x2)), ur, ut, ud, ug), wY)) hc hw (ca_21 ha) fX3_9 rfl rfl (Nat.le_of_ble_eq_true rfl) (sa_3_0 ha) dX3_addOne_40 (fun H locs hw => ?_)
    cases hf
    exact K _ _ _ _ dX3_addOne_43 hw
  · have hf := xif_f c1 hf
    refine lv_aload_n hx hb dX3_addOne_9 rfl (lv_at hl 0 rfl) ?_
    obtain ⟨uJ_4, h5, hf⟩ := xb1_of hf
    refine x_callvV (As := []) (rest := []) (σ' := (upA wA wa (uP, uC, uD, uJ_4, ur, ut, ud, ug), wY)) hc hw hl.1 (m_X3_forgetOldest ha h5) kX3_29 (ca_21 ha) rfl rfl ⟨rfl, rfl⟩ ⟨Nat.le_of_ble_eq_true rfl, Nat.le_of_ble_eq_true rfl⟩ ⟨Nat.zero_le _, Nat.zero_le _⟩ (Nat.le_of_ble_eq_true rfl) dX3_addOne_10 (fun H locs hw => ?_)
    refine lv_aload_n hx hb dX3_addOne_13 rfl (lv_at hl 0 rfl) ?_
    refine x_get (v := .ref (xAd κ (26 * wa + 22))) hc hw (ca_21 ha) fX3_15 rfl dX3_addOne_14 ?_
    refine lv_aload_n hx hb dX3_addOne_17 rfl (lv_at hl 0 rfl) ?_
    refine x_get (v := .int uJ_4.1) hc hw (ca_21 ha) fX3_9 rfl dX3_addOne_18 ?_
    refine lv_iload_n hx hb dX3_addOne_21 rfl (lv_at hl 1 rfl) ?_
    obtain ⟨k6, hf⟩ := xk_of hf
    refine x_iast (n := 16) (f := uJ_4.2.1) (σ' := (upA wA wa (uP, uC, uD, (uJ_4.1, (upd uJ_4.2.1 uJ_4.1.toNatClampNeg x1), uJ_4.2.2), ur, ut, ud, ug), wY)) hc hw (ca_22 ha) k6 (sa_3_1 ha) dX3_addOne_22 (fun H locs hw => ?_)
    refine lv_aload_n hx hb dX3_addOne_23 rfl (lv_at hl 0 rfl) ?_
    refine x_get (v := .ref (xAd κ (26 * wa + 23))) hc hw (ca_21 ha) fX3_19 rfl dX3_addOne_24 ?_
    refine lv_aload_n hx hb dX3_addOne_27 rfl (lv_at hl 0 rfl) ?_
    refine x_get (v := .int uJ_4.1) hc hw (ca_21 ha) fX3_9 rfl dX3_addOne_28 ?_
    refine lv_lload_n hx hb dX3_addOne_31 rfl (lv_at hl 2 rfl) ?_
    obtain ⟨k7, hf⟩ := xk_of hf
    refine x_last (n := 16) (f := uJ_4.2.2) (σ' := (upA wA wa (uP, uC, uD, (uJ_4.1, (upd uJ_4.2.1 uJ_4.1.toNatClampNeg x1), (vp_updL uJ_4.2.2 uJ_4.1.toNatClampNeg x2)), ur, ut, ud, ug), wY)) hc hw (ca_23 ha) k7 (sa_3_2 ha) dX3_addOne_32 (fun H locs hw => ?_)
    refine lv_aload_n hx hb dX3_addOne_33 rfl (lv_at hl 0 rfl) ?_
    refine lv_dup hx hb dX3_addOne_34 rfl ?_
    refine x_get (v := .int uJ_4.1) hc hw (ca_21 ha) fX3_9 rfl dX3_addOne_35 ?_
    refine lv_iconst (v := 1) hx hb dX3_addOne_38 (by decide) ?_
    refine lv_iadd hx hb dX3_addOne_39 ?_
    refine x_put (σ' := (upA wA wa (uP, uC, uD, ((uJ_4.1 + 1), (upd uJ_4.2.1 uJ_4.1.toNatClampNeg x1), (vp_updL uJ_4.2.2 uJ_4.1.toNatClampNeg x2)), ur, ut, ud, ug), wY)) hc hw (ca_21 ha) fX3_9 rfl rfl (Nat.le_of_ble_eq_true rfl) (sa_3_0 ha) dX3_addOne_40 (fun H locs hw => ?_)
    cases hf
    exact K _ _ _ _ dX3_addOne_43 hw
def f_X4_weightOn_4 (fu : Nat) (uP : sPar) : Nat → (Int32) → (Int32) → (Int32) → Option Int32
  | 0, _, _, _ => none
  | n + 1, x1, x2, x3 => if uP.1 ≤ x3 then (some x2) else (xk (xin x3 6) (if (uP.2.1 x3.toNatClampNeg) = x1 then (xk (xin x3 6) (f_X4_weightOn_4 fu uP n x1 (x2 + (uP.2.2.1 x3.toNatClampNeg)) (x3 + 1))) else (f_X4_weightOn_4 fu uP n x1 (x2 + 0) (x3 + 1))))
def f_X4_weightOn (fu : Nat) (x1 : Int32) (uP : sPar) : Option Int32 :=
  f_X4_weightOn_4 fu uP fu x1 0 0
set_option maxHeartbeats 4000000 in
set_option maxRecDepth 100000 in
theorem l_X4_weightOn_4 {l : Launch} {κ : xKt} {wA : Nat → sAcc} {wa : Nat} {wY : sTxt × sRng × sMai × sRef × sOut} (ha : wa < 9) {fu : Nat} {uP : sPar} {uC : sCla} {uD : sDeb} {uJ : sJou} {ur : xF32} {ut : xF32} {ud : Int32} {ug : Int32} {A : Nat → Prop} {p : Program} {e : Env} {s : State} {m : MethodId} {args : Array Value} {below : List Frame} {meth : Method} {c : Code} {Q : State → Prop} {rr : Int32}
    (hc : xC κ A p s m args meth c cX4_weightOn RX4 4 (some .int))
    (K : ∀ (pc : Nat) (ls : Array Slot) (H : Heap) (locs : List Loc), decode cX4_weightOn pc = .ok (.ireturn, 1) → narrow .int (.int rr) = .int rr → xW κ A s (upA wA wa (uP, uC, uD, uJ, ur, ut, ud, ug), wY) H locs → W p l e (xR 0 0 0) s m args below meth c H locs 0 0 Q (F0 m pc ls [.int rr])) :
    ∀ (n : Nat) (x1 : Int32) (x2 : Int32) (x3 : Int32) (H : Heap) (locs : List Loc) (ls : Array Slot), f_X4_weightOn_4 fu uP n x1 x2 x3 = some rr → xW κ A s (upA wA wa (uP, uC, uD, uJ, ur, ut, ud, ug), wY) H locs → lv_has ls 4 [(0, .ref (xAd κ (26 * wa + 1))), (1, .int x1), (2, .int x2), (3, .int x3)] → W p l e (xR 0 0 0) s m args below meth c H locs 0 0 Q (F0 m 4 ls []) := by
  have hx := hc.1.1
  have hb := hc.1.2.1
  intro n
  induction n with
  | zero =>
    intro x1 x2 x3 H locs ls hf
    rw [f_X4_weightOn_4] at hf
    cases hf
  | succ n hi =>
    intro x1 x2 x3 H locs ls hf hw hl
    rw [f_X4_weightOn_4] at hf
    refine lv_iload_n hx hb dX4_weightOn_4 rfl (lv_at hl 3 rfl) ?_
    refine lv_aload_n hx hb dX4_weightOn_5 rfl (lv_at hl 0 rfl) ?_
    refine x_get (v := .int uP.1) hc hw (ca_1 ha) fX4_9 rfl dX4_weightOn_6 ?_
    refine lv_icmp_ge (tgt := 41) hx hb dX4_weightOn_9 (by decide) (fun c1 => ?_) (fun c1 => ?_)
    · have hf := xif_t c1 hf
      refine lv_iload_n hx hb dX4_weightOn_41 rfl (lv_at hl 2 rfl) ?_
      cases hf
      exact K _ _ _ _ dX4_weightOn_42 rfl hw
    · have hf := xif_f c1 hf
      refine lv_iload_n hx hb dX4_weightOn_12 rfl (lv_at hl 2 rfl) ?_
      refine lv_aload_n hx hb dX4_weightOn_13 rfl (lv_at hl 0 rfl) ?_
      refine x_get (v := .ref (xAd κ (26 * wa + 2))) hc hw (ca_1 ha) fX4_15 rfl dX4_weightOn_14 ?_
      refine lv_iload_n hx hb dX4_weightOn_17 rfl (lv_at hl 3 rfl) ?_
      obtain ⟨k2, hf⟩ := xk_of hf
      refine x_iald (n := 6) (f := uP.2.1) hc hw (ca_2 ha) k2 dX4_weightOn_18 ?_
      refine lv_iload_n hx hb dX4_weightOn_19 rfl (lv_at hl 1 rfl) ?_
      refine lv_icmp_ne (tgt := 32) hx hb dX4_weightOn_20 (by decide) (fun c3 => ?_) (fun c3 => ?_)
      · have hf := xif_f c3 hf
        refine lv_iconst (v := 0) hx hb dX4_weightOn_32 (by decide) ?_
        refine lv_iadd hx hb dX4_weightOn_33 ?_
        refine lv_istore_n (lv' := [(2, .int (x2 + 0)), (0, .ref (xAd κ (26 * wa + 1))), (1, .int x1), (3, .int x3)]) hx hb dX4_weightOn_34 rfl hl (by decide) rfl (fun ls hl => ?_)
        refine lv_iinc (v := (x3 + 1)) (lv' := [(3, .int (x3 + 1)), (2, .int (x2 + 0)), (0, .ref (xAd κ (26 * wa + 1))), (1, .int x1)]) hx hb dX4_weightOn_35 hl (k := 3) rfl rfl (by decide) rfl (fun ls hl => ?_)
        refine lv_goto (tgt := 4) hx hb dX4_weightOn_38 (by decide) ?_
        exact hi _ _ _ _ _ _ hf hw (lv_sub hl [2, 3, 1, 0] rfl)
      · have hf := xif_t c3 hf
        refine lv_aload_n hx hb dX4_weightOn_23 rfl (lv_at hl 0 rfl) ?_
        refine x_get (v := .ref (xAd κ (26 * wa + 3))) hc hw (ca_1 ha) fX4_19 rfl dX4_weightOn_24 ?_
        refine lv_iload_n hx hb dX4_weightOn_27 rfl (lv_at hl 3 rfl) ?_
        obtain ⟨k4, hf⟩ := xk_of hf
        refine x_iald (n := 6) (f := uP.2.2.1) hc hw (ca_3 ha) k4 dX4_weightOn_28 ?_
        refine lv_goto (tgt := 33) hx hb dX4_weightOn_29 (by decide) ?_
        refine lv_iadd hx hb dX4_weightOn_33 ?_
        refine lv_istore_n (lv' := [(2, .int (x2 + (uP.2.2.1 x3.toNatClampNeg))), (0, .ref (xAd κ (26 * wa + 1))), (1, .int x1), (3, .int x3)]) hx hb dX4_weightOn_34 rfl hl (by decide) rfl (fun ls hl => ?_)
        refine lv_iinc (v := (x3 + 1)) (lv' := [(3, .int (x3 + 1)), (2, .int (x2 + (uP.2.2.1 x3.toNatClampNeg))), (0, .ref (xAd κ (26 * wa + 1))), (1, .int x1)]) hx hb dX4_weightOn_35 hl (k := 3) rfl rfl (by decide) rfl (fun ls hl => ?_)
        refine lv_goto (tgt := 4) hx hb dX4_weightOn_38 (by decide) ?_
        exact hi _ _ _ _ _ _ hf hw (lv_sub hl [2, 3, 1, 0] rfl)
set_option maxHeartbeats 4000000 in
set_option maxRecDepth 100000 in
theorem m_X4_weightOn {l : Launch} {κ : xKt} {wA : Nat → sAcc} {wa : Nat} {wY : sTxt × sRng × sMai × sRef × sOut} (ha : wa < 9) {fu : Nat} {x1 : Int32} {uP : sPar} {uC : sCla} {uD : sDeb} {uJ : sJou} {ur : xF32} {ut : xF32} {ud : Int32} {ug : Int32} {rr : Int32} (hf : f_X4_weightOn fu x1 uP = some rr) : xMi l κ yX4_weightOn cX4_weightOn 4 (some .int) (xR 0 0 0) [.ref (xAd κ (26 * wa + 1)), .int x1] (upA wA wa (uP, uC, uD, uJ, ur, ut, ud, ug), wY) (upA wA wa (uP, uC, uD, uJ, ur, ut, ud, ug), wY) rr := by
  unfold f_X4_weightOn at hf
  refine xMi_of pn_X4 (Nat.le_of_ble_eq_true rfl) ⟨rfl, rfl⟩ ?_
  intro A p e s m args below meth c ls Q hc hw hl K
  have hc : xC κ A p s m args meth c cX4_weightOn RX4 4 (some .int) := hc
  have hx := hc.1.1
  have hb := hc.1.2.1
  have hl : lv_has ls 4 [(0, .ref (xAd κ (26 * wa + 1))), (1, .int x1)] := hl
  refine lv_iconst (v := 0) hx hb dX4_weightOn_0 (by decide) ?_
  refine lv_istore_n (lv' := [(2, .int 0), (0, .ref (xAd κ (26 * wa + 1))), (1, .int x1)]) hx hb dX4_weightOn_1 rfl hl (by decide) rfl (fun ls hl => ?_)
  refine lv_iconst (v := 0) hx hb dX4_weightOn_2 (by decide) ?_
  refine lv_istore_n (lv' := [(3, .int 0), (2, .int 0), (0, .ref (xAd κ (26 * wa + 1))), (1, .int x1)]) hx hb dX4_weightOn_3 rfl hl (by decide) rfl (fun ls hl => ?_)
  exact l_X4_weightOn_4 ha hc K fu _ _ _ _ _ _ hf hw (lv_sub hl [2, 3, 1, 0] rfl)
def f_X4_partOf_32 (fu : Nat) (uP : sPar) : Nat → (Int64) → (Int32) → (Int32) → (Int32) → (Int64) → (Int32) → (Int32) → Option Int64
  | 0, _, _, _, _, _, _, _ => none
  | n + 1, x1, x3, x4, x5, x6, x8, x9 => if uP.1 ≤ x9 then (xk (xin x3 6) (xk (xnzl x5.toInt64) (if x6 ≤ x8.toInt64 then (some ((((x1 * (uP.2.2.1 x3.toNatClampNeg).toInt64) / x5.toInt64) + 0))) else (some ((((x1 * (uP.2.2.1 x3.toNatClampNeg).toInt64) / x5.toInt64) + 1)))))) else (xk (xin x9 6) (if (uP.2.1 x9.toNatClampNeg) = x4 then (xk (xin x9 6) (xk (xnzl x5.toInt64) (if x3 ≤ x9 then (f_X4_partOf_32 fu uP n x1 x3 x4 x5 (x6 - ((x1 * (uP.2.2.1 x9.toNatClampNeg).toInt64) / x5.toInt64)) (x8 + 0) (x9 + 1)) else (f_X4_partOf_32 fu uP n x1 x3 x4 x5 (x6 - ((x1 * (uP.2.2.1 x9.toNatClampNeg).toInt64) / x5.toInt64)) (x8 + 1) (x9 + 1))))) else (f_X4_partOf_32 fu uP n x1 x3 x4 x5 x6 x8 (x9 + 1))))
def f_X4_partOf (fu : Nat) (x1 : Int64) (x3 : Int32) (uP : sPar) : Option Int64 :=
  xk (xin x3 6) (xb1 (f_X4_weightOn fu (uP.2.1 x3.toNatClampNeg) uP) fun v2 => (if 0 < v2 then (f_X4_partOf_32 fu uP fu x1 x3 (uP.2.1 x3.toNatClampNeg) v2 x1 0 0) else (some 0)))
set_option maxHeartbeats 4000000 in
set_option maxRecDepth 100000 in
theorem l_X4_partOf_32 {l : Launch} {κ : xKt} {wA : Nat → sAcc} {wa : Nat} {wY : sTxt × sRng × sMai × sRef × sOut} (ha : wa < 9) {fu : Nat} {uP : sPar} {uC : sCla} {uD : sDeb} {uJ : sJou} {ur : xF32} {ut : xF32} {ud : Int32} {ug : Int32} {A : Nat → Prop} {p : Program} {e : Env} {s : State} {m : MethodId} {args : Array Value} {below : List Frame} {meth : Method} {c : Code} {Q : State → Prop} {rr : Int64}
    (hc : xC κ A p s m args meth c cX4_partOf RX4 10 (some .long))
    (K : ∀ (pc : Nat) (ls : Array Slot) (H : Heap) (locs : List Loc), decode cX4_partOf pc = .ok (.lreturn, 1) → xW κ A s (upA wA wa (uP, uC, uD, uJ, ur, ut, ud, ug), wY) H locs → W p l e (xR 1 0 0) s m args below meth c H locs 0 0 Q (F0 m pc ls [.long rr])) :
    ∀ (n : Nat) (x1 : Int64) (x3 : Int32) (x4 : Int32) (x5 : Int32) (x6 : Int64) (x8 : Int32) (x9 : Int32) (H : Heap) (locs : List Loc) (ls : Array Slot), f_X4_partOf_32 fu uP n x1 x3 x4 x5 x6 x8 x9 = some rr → xW κ A s (upA wA wa (uP, uC, uD, uJ, ur, ut, ud, ug), wY) H locs → lv_has ls 10 [(0, .ref (xAd κ (26 * wa + 1))), (1, .long x1), (3, .int x3), (4, .int x4), (5, .int x5), (6, .long x6), (8, .int x8), (9, .int x9)] → W p l e (xR 1 0 0) s m args below meth c H locs 0 0 Q (F0 m 32 ls []) := by
  have hx := hc.1.1
  have hb := hc.1.2.1
  intro n
  induction n with
  | zero =>
    intro x1 x3 x4 x5 x6 x8 x9 H locs ls hf
    rw [f_X4_partOf_32] at hf
    cases hf
  | succ n hi =>
    intro x1 x3 x4 x5 x6 x8 x9 H locs ls hf hw hl
    rw [f_X4_partOf_32] at hf
    refine lv_iload hx hb dX4_partOf_32 (lv_at hl 7 rfl) ?_
    refine lv_aload_n hx hb dX4_partOf_34 rfl (lv_at hl 0 rfl) ?_
    refine x_get (v := .int uP.1) hc hw (ca_1 ha) fX4_9 rfl dX4_partOf_35 ?_
    refine lv_icmp_ge (tgt := 94) hx hb dX4_partOf_38 (by decide) (fun c5 => ?_) (fun c5 => ?_)
    · have hf := xif_t c5 hf
      refine lv_lload_n hx hb dX4_partOf_94 rfl (lv_at hl 1 rfl) ?_
      refine lv_aload_n hx hb dX4_partOf_95 rfl (lv_at hl 0 rfl) ?_
      refine x_get (v := .ref (xAd κ (26 * wa + 3))) hc hw (ca_1 ha) fX4_19 rfl dX4_partOf_96 ?_
      refine lv_iload_n hx hb dX4_partOf_99 rfl (lv_at hl 2 rfl) ?_
      obtain ⟨k6, hf⟩ := xk_of hf
      refine x_iald (n := 6) (f := uP.2.2.1) hc hw (ca_3 ha) k6 dX4_partOf_100 ?_
      refine lv_i2l (v := (uP.2.2.1 x3.toNatClampNeg).toInt64) hx hb dX4_partOf_101 rfl ?_
      refine lv_lmul hx hb dX4_partOf_102 ?_
      refine lv_iload hx hb dX4_partOf_103 (lv_at hl 4 rfl) ?_
      refine lv_i2l (v := x5.toInt64) hx hb dX4_partOf_105 rfl ?_
      obtain ⟨k7, hf⟩ := xk_of hf
      refine lv_ldiv hx hb dX4_partOf_106 (of_decide_eq_true k7) ?_
      refine lv_iload hx hb dX4_partOf_107 (lv_at hl 6 rfl) ?_
      refine lv_i2l (v := x8.toInt64) hx hb dX4_partOf_109 rfl ?_
      refine lv_lload hx hb dX4_partOf_110 (lv_at hl 5 rfl) ?_
      refine x_lcmp_ge (tgt := 120) hx hb dX4_partOf_112 dX4_partOf_113 (by decide) (fun c8 => ?_) (fun c8 => ?_)
      · have hf := xif_t c8 hf
        refine lv_iconst (v := 0) hx hb dX4_partOf_120 (by decide) ?_
        refine lv_i2l (v := 0) hx hb dX4_partOf_121 (by decide) ?_
        refine lv_ladd hx hb dX4_partOf_122 ?_
        cases hf
        exact K _ _ _ _ dX4_partOf_123 hw
      · have hf := xif_f c8 hf
        refine lv_iconst (v := 1) hx hb dX4_partOf_116 (by decide) ?_
        refine lv_goto (tgt := 121) hx hb dX4_partOf_117 (by decide) ?_
        refine lv_i2l (v := 1) hx hb dX4_partOf_121 (by decide) ?_
        refine lv_ladd hx hb dX4_partOf_122 ?_
        cases hf
        exact K _ _ _ _ dX4_partOf_123 hw
    · have hf := xif_f c5 hf
      refine lv_aload_n hx hb dX4_partOf_41 rfl (lv_at hl 0 rfl) ?_
      refine x_get (v := .ref (xAd κ (26 * wa + 2))) hc hw (ca_1 ha) fX4_15 rfl dX4_partOf_42 ?_
      refine lv_iload hx hb dX4_partOf_45 (lv_at hl 7 rfl) ?_
      obtain ⟨k9, hf⟩ := xk_of hf
      refine x_iald (n := 6) (f := uP.2.1) hc hw (ca_2 ha) k9 dX4_partOf_47 ?_
      refine lv_iload hx hb dX4_partOf_48 (lv_at hl 3 rfl) ?_
      refine lv_icmp_ne (tgt := 88) hx hb dX4_partOf_50 (by decide) (fun c10 => ?_) (fun c10 => ?_)
      · have hf := xif_f c10 hf
        refine lv_iinc (v := (x9 + 1)) (lv' := [(9, .int (x9 + 1)), (0, .ref (xAd κ (26 * wa + 1))), (1, .long x1), (3, .int x3), (4, .int x4), (5, .int x5), (6, .long x6), (8, .int x8)]) hx hb dX4_partOf_88 hl (k := 7) rfl rfl (by decide) rfl (fun ls hl => ?_)
        refine lv_goto (tgt := 32) hx hb dX4_partOf_91 (by decide) ?_
        exact hi _ _ _ _ _ _ _ _ _ _ hf hw (lv_sub hl [1, 2, 3, 4, 5, 6, 7, 0] rfl)
      · have hf := xif_t c10 hf
        refine lv_lload hx hb dX4_partOf_53 (lv_at hl 5 rfl) ?_
        refine lv_lload_n hx hb dX4_partOf_55 rfl (lv_at hl 1 rfl) ?_
        refine lv_aload_n hx hb dX4_partOf_56 rfl (lv_at hl 0 rfl) ?_
        refine x_get (v := .ref (xAd κ (26 * wa + 3))) hc hw (ca_1 ha) fX4_19 rfl dX4_partOf_57 ?_
        refine lv_iload hx hb dX4_partOf_60 (lv_at hl 7 rfl) ?_
        obtain ⟨k11, hf⟩ := xk_of hf
        refine x_iald (n := 6) (f := uP.2.2.1) hc hw (ca_3 ha) k11 dX4_partOf_62 ?_
        refine lv_i2l (v := (uP.2.2.1 x9.toNatClampNeg).toInt64) hx hb dX4_partOf_63 rfl ?_
        refine lv_lmul hx hb dX4_partOf_64 ?_
        refine lv_iload hx hb dX4_partOf_65 (lv_at hl 4 rfl) ?_
        refine lv_i2l (v := x5.toInt64) hx hb dX4_partOf_67 rfl ?_
        obtain ⟨k12, hf⟩ := xk_of hf
        refine lv_ldiv hx hb dX4_partOf_68 (of_decide_eq_true k12) ?_
        refine lv_lsub hx hb dX4_partOf_69 ?_
        refine lv_lstore (lv' := [(6, .long (x6 - ((x1 * (uP.2.2.1 x9.toNatClampNeg).toInt64) / x5.toInt64))), (0, .ref (xAd κ (26 * wa + 1))), (1, .long x1), (3, .int x3), (4, .int x4), (5, .int x5), (8, .int x8), (9, .int x9)]) hx hb dX4_partOf_70 hl (by decide) rfl (fun ls hl => ?_)
        refine lv_iload hx hb dX4_partOf_72 (lv_at hl 6 rfl) ?_
        refine lv_iload hx hb dX4_partOf_74 (lv_at hl 7 rfl) ?_
        refine lv_iload_n hx hb dX4_partOf_76 rfl (lv_at hl 3 rfl) ?_
        refine lv_icmp_ge (tgt := 84) hx hb dX4_partOf_77 (by decide) (fun c13 => ?_) (fun c13 => ?_)
        · have hf := xif_t c13 hf
          refine lv_iconst (v := 0) hx hb dX4_partOf_84 (by decide) ?_
          refine lv_iadd hx hb dX4_partOf_85 ?_
          refine lv_istore (lv' := [(8, .int (x8 + 0)), (6, .long (x6 - ((x1 * (uP.2.2.1 x9.toNatClampNeg).toInt64) / x5.toInt64))), (0, .ref (xAd κ (26 * wa + 1))), (1, .long x1), (3, .int x3), (4, .int x4), (5, .int x5), (9, .int x9)]) hx hb dX4_partOf_86 hl (by decide) rfl (fun ls hl => ?_)
          refine lv_iinc (v := (x9 + 1)) (lv' := [(9, .int (x9 + 1)), (8, .int (x8 + 0)), (6, .long (x6 - ((x1 * (uP.2.2.1 x9.toNatClampNeg).toInt64) / x5.toInt64))), (0, .ref (xAd κ (26 * wa + 1))), (1, .long x1), (3, .int x3), (4, .int x4), (5, .int x5)]) hx hb dX4_partOf_88 hl (k := 7) rfl rfl (by decide) rfl (fun ls hl => ?_)
          refine lv_goto (tgt := 32) hx hb dX4_partOf_91 (by decide) ?_
          exact hi _ _ _ _ _ _ _ _ _ _ hf hw (lv_sub hl [3, 4, 5, 6, 7, 2, 1, 0] rfl)
        · have hf := xif_f c13 hf
          refine lv_iconst (v := 1) hx hb dX4_partOf_80 (by decide) ?_
          refine lv_goto (tgt := 85) hx hb dX4_partOf_81 (by decide) ?_
          refine lv_iadd hx hb dX4_partOf_85 ?_
          refine lv_istore (lv' := [(8, .int (x8 + 1)), (6, .long (x6 - ((x1 * (uP.2.2.1 x9.toNatClampNeg).toInt64) / x5.toInt64))), (0, .ref (xAd κ (26 * wa + 1))), (1, .long x1), (3, .int x3), (4, .int x4), (5, .int x5), (9, .int x9)]) hx hb dX4_partOf_86 hl (by decide) rfl (fun ls hl => ?_)
          refine lv_iinc (v := (x9 + 1)) (lv' := [(9, .int (x9 + 1)), (8, .int (x8 + 1)), (6, .long (x6 - ((x1 * (uP.2.2.1 x9.toNatClampNeg).toInt64) / x5.toInt64))), (0, .ref (xAd κ (26 * wa + 1))), (1, .long x1), (3, .int x3), (4, .int x4), (5, .int x5)]) hx hb dX4_partOf_88 hl (k := 7) rfl rfl (by decide) rfl (fun ls hl => ?_)
          refine lv_goto (tgt := 32) hx hb dX4_partOf_91 (by decide) ?_
          exact hi _ _ _ _ _ _ _ _ _ _ hf hw (lv_sub hl [3, 4, 5, 6, 7, 2, 1, 0] rfl)
set_option maxHeartbeats 4000000 in
set_option maxRecDepth 100000 in
theorem m_X4_partOf {l : Launch} {κ : xKt} {wA : Nat → sAcc} {wa : Nat} {wY : sTxt × sRng × sMai × sRef × sOut} (ha : wa < 9) {fu : Nat} {x1 : Int64} {x3 : Int32} {uP : sPar} {uC : sCla} {uD : sDeb} {uJ : sJou} {ur : xF32} {ut : xF32} {ud : Int32} {ug : Int32} {rr : Int64} (hf : f_X4_partOf fu x1 x3 uP = some rr) : xMl l κ yX4_partOf cX4_partOf 10 (some .long) (xR 1 0 0) [.ref (xAd κ (26 * wa + 1)), .long x1, .int x3] (upA wA wa (uP, uC, uD, uJ, ur, ut, ud, ug), wY) (upA wA wa (uP, uC, uD, uJ, ur, ut, ud, ug), wY) rr := by
  unfold f_X4_partOf at hf
  refine xMl_of pn_X4 (Nat.le_of_ble_eq_true rfl) ⟨rfl, rfl⟩ ?_
  intro A p e s m args below meth c ls Q hc hw hl K
  have hc : xC κ A p s m args meth c cX4_partOf RX4 10 (some .long) := hc
  have hx := hc.1.1
  have hb := hc.1.2.1
  have hl : lv_has ls 10 [(0, .ref (xAd κ (26 * wa + 1))), (1, .long x1), (3, .int x3)] := hl
  refine lv_aload_n hx hb dX4_partOf_0 rfl (lv_at hl 0 rfl) ?_
  refine x_get (v := .ref (xAd κ (26 * wa + 2))) hc hw (ca_1 ha) fX4_15 rfl dX4_partOf_1 ?_
  refine lv_iload_n hx hb dX4_partOf_4 rfl (lv_at hl 2 rfl) ?_
  obtain ⟨k1, hf⟩ := xk_of hf
  refine x_iald (n := 6) (f := uP.2.1) hc hw (ca_2 ha) k1 dX4_partOf_5 ?_
  refine lv_istore (lv' := [(4, .int (uP.2.1 x3.toNatClampNeg)), (0, .ref (xAd κ (26 * wa + 1))), (1, .long x1), (3, .int x3)]) hx hb dX4_partOf_6 hl (by decide) rfl (fun ls hl => ?_)
  refine lv_aload_n hx hb dX4_partOf_8 rfl (lv_at hl 1 rfl) ?_
  refine lv_iload hx hb dX4_partOf_9 (lv_at hl 0 rfl) ?_
  obtain ⟨v2, h3, hf⟩ := xb1_of hf
  refine x_calliV (As := [.int (uP.2.1 x3.toNatClampNeg)]) (rest := []) (σ' := (upA wA wa (uP, uC, uD, uJ, ur, ut, ud, ug), wY)) hc hw hl.1 (m_X4_weightOn ha h3) kX4_51 (ca_1 ha) rfl rfl ⟨rfl, rfl⟩ ⟨Nat.le_of_ble_eq_true rfl, Nat.le_of_ble_eq_true rfl⟩ ⟨Nat.zero_le _, Nat.zero_le _⟩ (Nat.le_of_ble_eq_true rfl) dX4_partOf_11 (fun H locs hw => ?_)
  refine lv_istore (lv' := [(5, .int v2), (4, .int (uP.2.1 x3.toNatClampNeg)), (0, .ref (xAd κ (26 * wa + 1))), (1, .long x1), (3, .int x3)]) hx hb dX4_partOf_14 hl (by decide) rfl (fun ls hl => ?_)
  refine lv_iload hx hb dX4_partOf_16 (lv_at hl 0 rfl) ?_
  refine lv_if_gt (tgt := 23) hx hb dX4_partOf_18 (by decide) (fun c4 => ?_) (fun c4 => ?_)
  · have hf := xif_t c4 hf
    refine lv_lload_n hx hb dX4_partOf_23 rfl (lv_at hl 3 rfl) ?_
    refine lv_lstore (lv' := [(6, .long x1), (5, .int v2), (4, .int (uP.2.1 x3.toNatClampNeg)), (0, .ref (xAd κ (26 * wa + 1))), (1, .long x1), (3, .int x3)]) hx hb dX4_partOf_24 hl (by decide) rfl (fun ls hl => ?_)
    refine lv_iconst (v := 0) hx hb dX4_partOf_26 (by decide) ?_
    refine lv_istore (lv' := [(8, .int 0), (6, .long x1), (5, .int v2), (4, .int (uP.2.1 x3.toNatClampNeg)), (0, .ref (xAd κ (26 * wa + 1))), (1, .long x1), (3, .int x3)]) hx hb dX4_partOf_27 hl (by decide) rfl (fun ls hl => ?_)
    refine lv_iconst (v := 0) hx hb dX4_partOf_29 (by decide) ?_
    refine lv_istore (lv' := [(9, .int 0), (8, .int 0), (6, .long x1), (5, .int v2), (4, .int (uP.2.1 x3.toNatClampNeg)), (0, .ref (xAd κ (26 * wa + 1))), (1, .long x1), (3, .int x3)]) hx hb dX4_partOf_30 hl (by decide) rfl (fun ls hl => ?_)
    exact l_X4_partOf_32 ha hc K fu _ _ _ _ _ _ _ _ _ _ hf hw (lv_sub hl [5, 6, 7, 4, 3, 2, 1, 0] rfl)
  · have hf := xif_f c4 hf
    refine lv_lconst (v := 0) hx hb dX4_partOf_21 (by decide) ?_
    cases hf
    exact K _ _ _ _ dX4_partOf_22 hw
def f_X1_sumInDispute_4 (fu : Nat) (uC : sCla) : Nat → (Int64) → (Int32) → Option Int64
  | 0, _, _ => none
  | n + 1, x1, x3 => if uC.1 ≤ x3 then (some x1) else (xk (xin x3 12) (xk (xin x3 12) (f_X1_sumInDispute_4 fu uC n (x1 + ((uC.2.2.2.1 x3.toNatClampNeg) - (uC.2.2.2.2.2.2 x3.toNatClampNeg)).toInt64) (x3 + 1))))
def f_X1_sumInDispute (fu : Nat) (uC : sCla) : Option Int64 :=
  f_X1_sumInDispute_4 fu uC fu 0 0
set_option maxHeartbeats 4000000 in
set_option maxRecDepth 100000 in
theorem l_X1_sumInDispute_4 {l : Launch} {κ : xKt} {wA : Nat → sAcc} {wa : Nat} {wY : sTxt × sRng × sMai × sRef × sOut} (ha : wa < 9) {fu : Nat} {uP : sPar} {uC : sCla} {uD : sDeb} {uJ : sJou} {ur : xF32} {ut : xF32} {ud : Int32} {ug : Int32} {A : Nat → Prop} {p : Program} {e : Env} {s : State} {m : MethodId} {args : Array Value} {below : List Frame} {meth : Method} {c : Code} {Q : State → Prop} {rr : Int64}
    (hc : xC κ A p s m args meth c cX1_sumInDispute RX1 4 (some .long))
    (K : ∀ (pc : Nat) (ls : Array Slot) (H : Heap) (locs : List Loc), decode cX1_sumInDispute pc = .ok (.lreturn, 1) → xW κ A s (upA wA wa (uP, uC, uD, uJ, ur, ut, ud, ug), wY) H locs → W p l e (xR 0 0 0) s m args below meth c H locs 0 0 Q (F0 m pc ls [.long rr])) :
    ∀ (n : Nat) (x1 : Int64) (x3 : Int32) (H : Heap) (locs : List Loc) (ls : Array Slot), f_X1_sumInDispute_4 fu uC n x1 x3 = some rr → xW κ A s (upA wA wa (uP, uC, uD, uJ, ur, ut, ud, ug), wY) H locs → lv_has ls 4 [(0, .ref (xAd κ (26 * wa + 8))), (1, .long x1), (3, .int x3)] → W p l e (xR 0 0 0) s m args below meth c H locs 0 0 Q (F0 m 4 ls []) := by
  have hx := hc.1.1
  have hb := hc.1.2.1
  intro n
  induction n with
  | zero =>
    intro x1 x3 H locs ls hf
    rw [f_X1_sumInDispute_4] at hf
    cases hf
  | succ n hi =>
    intro x1 x3 H locs ls hf hw hl
    rw [f_X1_sumInDispute_4] at hf
    refine lv_iload_n hx hb dX1_sumInDispute_4 rfl (lv_at hl 2 rfl) ?_
    refine lv_aload_n hx hb dX1_sumInDispute_5 rfl (lv_at hl 0 rfl) ?_
    refine x_get (v := .int uC.1) hc hw (ca_8 ha) fX1_9 rfl dX1_sumInDispute_6 ?_
    refine lv_icmp_ge (tgt := 35) hx hb dX1_sumInDispute_9 (by decide) (fun c1 => ?_) (fun c1 => ?_)
    · have hf := xif_t c1 hf
      refine lv_lload_n hx hb dX1_sumInDispute_35 rfl (lv_at hl 1 rfl) ?_
      cases hf
      exact K _ _ _ _ dX1_sumInDispute_36 hw
    · have hf := xif_f c1 hf
      refine lv_lload_n hx hb dX1_sumInDispute_12 rfl (lv_at hl 1 rfl) ?_
      refine lv_aload_n hx hb dX1_sumInDispute_13 rfl (lv_at hl 0 rfl) ?_
      refine x_get (v := .ref (xAd κ (26 * wa + 11))) hc hw (ca_8 ha) fX1_22 rfl dX1_sumInDispute_14 ?_
      refine lv_iload_n hx hb dX1_sumInDispute_17 rfl (lv_at hl 2 rfl) ?_
      obtain ⟨k2, hf⟩ := xk_of hf
      refine x_iald (n := 12) (f := uC.2.2.2.1) hc hw (ca_11 ha) k2 dX1_sumInDispute_18 ?_
      refine lv_aload_n hx hb dX1_sumInDispute_19 rfl (lv_at hl 0 rfl) ?_
      refine x_get (v := .ref (xAd κ (26 * wa + 14))) hc hw (ca_8 ha) fX1_31 rfl dX1_sumInDispute_20 ?_
      refine lv_iload_n hx hb dX1_sumInDispute_23 rfl (lv_at hl 2 rfl) ?_
      obtain ⟨k3, hf⟩ := xk_of hf
      refine x_iald (n := 12) (f := uC.2.2.2.2.2.2) hc hw (ca_14 ha) k3 dX1_sumInDispute_24 ?_
      refine lv_isub hx hb dX1_sumInDispute_25 ?_
      refine lv_i2l (v := ((uC.2.2.2.1 x3.toNatClampNeg) - (uC.2.2.2.2.2.2 x3.toNatClampNeg)).toInt64) hx hb dX1_sumInDispute_26 rfl ?_
      refine lv_ladd hx hb dX1_sumInDispute_27 ?_
      refine lv_lstore_n (lv' := [(1, .long (x1 + ((uC.2.2.2.1 x3.toNatClampNeg) - (uC.2.2.2.2.2.2 x3.toNatClampNeg)).toInt64)), (0, .ref (xAd κ (26 * wa + 8))), (3, .int x3)]) hx hb dX1_sumInDispute_28 rfl hl (by decide) rfl (fun ls hl => ?_)
      refine lv_iinc (v := (x3 + 1)) (lv' := [(3, .int (x3 + 1)), (1, .long (x1 + ((uC.2.2.2.1 x3.toNatClampNeg) - (uC.2.2.2.2.2.2 x3.toNatClampNeg)).toInt64)), (0, .ref (xAd κ (26 * wa + 8)))]) hx hb dX1_sumInDispute_29 hl (k := 2) rfl rfl (by decide) rfl (fun ls hl => ?_)
      refine lv_goto (tgt := 4) hx hb dX1_sumInDispute_32 (by decide) ?_
      exact hi _ _ _ _ _ hf hw (lv_sub hl [2, 1, 0] rfl)
set_option maxHeartbeats 4000000 in
set_option maxRecDepth 100000 in
theorem m_X1_sumInDispute {l : Launch} {κ : xKt} {wA : Nat → sAcc} {wa : Nat} {wY : sTxt × sRng × sMai × sRef × sOut} (ha : wa < 9) {fu : Nat} {uP : sPar} {uC : sCla} {uD : sDeb} {uJ : sJou} {ur : xF32} {ut : xF32} {ud : Int32} {ug : Int32} {rr : Int64} (hf : f_X1_sumInDispute fu uC = some rr) : xMl l κ yX1_sumInDispute cX1_sumInDispute 4 (some .long) (xR 0 0 0) [.ref (xAd κ (26 * wa + 8))] (upA wA wa (uP, uC, uD, uJ, ur, ut, ud, ug), wY) (upA wA wa (uP, uC, uD, uJ, ur, ut, ud, ug), wY) rr := by
  unfold f_X1_sumInDispute at hf
  refine xMl_of pn_X1 (Nat.le_of_ble_eq_true rfl) ⟨rfl, rfl⟩ ?_
  intro A p e s m args below meth c ls Q hc hw hl K
  have hc : xC κ A p s m args meth c cX1_sumInDispute RX1 4 (some .long) := hc
  have hx := hc.1.1
  have hb := hc.1.2.1
  have hl : lv_has ls 4 [(0, .ref (xAd κ (26 * wa + 8)))] := hl
  refine lv_lconst (v := 0) hx hb dX1_sumInDispute_0 (by decide) ?_
  refine lv_lstore_n (lv' := [(1, .long 0), (0, .ref (xAd κ (26 * wa + 8)))]) hx hb dX1_sumInDispute_1 rfl hl (by decide) rfl (fun ls hl => ?_)
  refine lv_iconst (v := 0) hx hb dX1_sumInDispute_2 (by decide) ?_
  refine lv_istore_n (lv' := [(3, .int 0), (1, .long 0), (0, .ref (xAd κ (26 * wa + 8)))]) hx hb dX1_sumInDispute_3 rfl hl (by decide) rfl (fun ls hl => ?_)
  exact l_X1_sumInDispute_4 ha hc K fu _ _ _ _ _ hf hw (lv_sub hl [2, 1, 0] rfl)
def f_X4_heldFor (x1 : Int32) (uP : sPar) : Option Int64 :=
  xk (xin x1 6) (xk (xin x1 6) (xk (xin x1 6) (some ((((uP.2.2.2.2.1 x1.toNatClampNeg) - (uP.2.2.2.2.2.1 x1.toNatClampNeg)) - (uP.2.2.2.2.2.2 x1.toNatClampNeg))))))
set_option maxHeartbeats 4000000 in
set_option maxRecDepth 100000 in
theorem m_X4_heldFor {l : Launch} {κ : xKt} {wA : Nat → sAcc} {wa : Nat} {wY : sTxt × sRng × sMai × sRef × sOut} (ha : wa < 9)  {x1 : Int32} {uP : sPar} {uC : sCla} {uD : sDeb} {uJ : sJou} {ur : xF32} {ut : xF32} {ud : Int32} {ug : Int32} {rr : Int64} (hf : f_X4_heldFor x1 uP = some rr) : xMl l κ yX4_heldFor cX4_heldFor 2 (some .long) (xR 0 0 0) [.ref (xAd κ (26 * wa + 1)), .int x1] (upA wA wa (uP, uC, uD, uJ, ur, ut, ud, ug), wY) (upA wA wa (uP, uC, uD, uJ, ur, ut, ud, ug), wY) rr := by
  unfold f_X4_heldFor at hf
  refine xMl_of pn_X4 (Nat.le_of_ble_eq_true rfl) ⟨rfl, rfl⟩ ?_
  intro A p e s m args below meth c ls Q hc hw hl K
  have hc : xC κ A p s m args meth c cX4_heldFor RX4 2 (some .long) := hc
  have hx := hc.1.1
  have hb := hc.1.2.1
  have hl : lv_has ls 2 [(0, .ref (xAd κ (26 * wa + 1))), (1, .int x1)] := hl
  refine lv_aload_n hx hb dX4_heldFor_0 rfl (lv_at hl 0 rfl) ?_
  refine x_get (v := .ref (xAd κ (26 * wa + 5))) hc hw (ca_1 ha) fX4_26 rfl dX4_heldFor_1 ?_
  refine lv_iload_n hx hb dX4_heldFor_4 rfl (lv_at hl 1 rfl) ?_
  obtain ⟨k1, hf⟩ := xk_of hf
  refine x_lald (n := 6) (f := uP.2.2.2.2.1) hc hw (ca_5 ha) k1 dX4_heldFor_5 ?_
  refine lv_aload_n hx hb dX4_heldFor_6 rfl (lv_at hl 0 rfl) ?_
  refine x_get (v := .ref (xAd κ (26 * wa + 6))) hc hw (ca_1 ha) fX4_29 rfl dX4_heldFor_7 ?_
  refine lv_iload_n hx hb dX4_heldFor_10 rfl (lv_at hl 1 rfl) ?_
  obtain ⟨k2, hf⟩ := xk_of hf
  refine x_lald (n := 6) (f := uP.2.2.2.2.2.1) hc hw (ca_6 ha) k2 dX4_heldFor_11 ?_
  refine lv_lsub hx hb dX4_heldFor_12 ?_
  refine lv_aload_n hx hb dX4_heldFor_13 rfl (lv_at hl 0 rfl) ?_
  refine x_get (v := .ref (xAd κ (26 * wa + 7))) hc hw (ca_1 ha) fX4_32 rfl dX4_heldFor_14 ?_
  refine lv_iload_n hx hb dX4_heldFor_17 rfl (lv_at hl 1 rfl) ?_
  obtain ⟨k3, hf⟩ := xk_of hf
  refine x_lald (n := 6) (f := uP.2.2.2.2.2.2) hc hw (ca_7 ha) k3 dX4_heldFor_18 ?_
  refine lv_lsub hx hb dX4_heldFor_19 ?_
  cases hf
  exact K _ _ _ _ dX4_heldFor_20 hw
def f_X2_removeAt_2 (fu : Nat) : Nat → (Int32) → (sDeb) → Option sDeb
  | 0, _, _ => none
  | n + 1, x2, uD => if (uD.1 - 1) ≤ x2 then (some (((uD.1 - 1), uD.2.1, uD.2.2.1, uD.2.2.2.1, uD.2.2.2.2.1, uD.2.2.2.2.2))) else (xk (xin (x2 + 1) 30) (xk (xin x2 30) (xk (xin (x2 + 1) 30) (xk (xin x2 30) (xk (xin (x2 + 1) 30) (xk (xin x2 30) (xk (xin (x2 + 1) 30) (xk (xin x2 30) (xk (xin (x2 + 1) 30) (xk (xin x2 30) (f_X2_removeAt_2 fu n (x2 + 1) (uD.1, (upd uD.2.1 x2.toNatClampNeg (uD.2.1 (x2 + 1).toNatClampNeg)), (upd uD.2.2.1 x2.toNatClampNeg (uD.2.2.1 (x2 + 1).toNatClampNeg)), (vp_updL uD.2.2.2.1 x2.toNatClampNeg (uD.2.2.2.1 (x2 + 1).toNatClampNeg)), (vp_updL uD.2.2.2.2.1 x2.toNatClampNeg (uD.2.2.2.2.1 (x2 + 1).toNatClampNeg)), (vp_updL uD.2.2.2.2.2 x2.toNatClampNeg (uD.2.2.2.2.2 (x2 + 1).toNatClampNeg))))))))))))))
def f_X2_removeAt (fu : Nat) (x1 : Int32) (uD : sDeb) : Option sDeb :=
  f_X2_removeAt_2 fu fu x1 uD
set_option maxHeartbeats 4000000 in
set_option maxRecDepth 100000 in
theorem l_X2_removeAt_2 {l : Launch} {κ : xKt} {wA : Nat → sAcc} {wa : Nat} {wY : sTxt × sRng × sMai × sRef × sOut} (ha : wa < 9) {fu : Nat} {uP : sPar} {uC : sCla} {uJ : sJou} {ur : xF32} {ut : xF32} {ud : Int32} {ug : Int32} {A : Nat → Prop} {p : Program} {e : Env} {s : State} {m : MethodId} {args : Array Value} {below : List Frame} {meth : Method} {c : Code} {Q : State → Prop} {yD : sDeb}
    (hc : xC κ A p s m args meth c cX2_removeAt RX2 3 none)
    (K : ∀ (pc : Nat) (ls : Array Slot) (H : Heap) (locs : List Loc), decode cX2_removeAt pc = .ok (.return_, 1) → xW κ A s (upA wA wa (uP, uC, yD, uJ, ur, ut, ud, ug), wY) H locs → W p l e (xR 0 0 0) s m args below meth c H locs 0 0 Q (F0 m pc ls [])) :
    ∀ (n : Nat) (x2 : Int32) (uD : sDeb) (H : Heap) (locs : List Loc) (ls : Array Slot), f_X2_removeAt_2 fu n x2 uD = some yD → xW κ A s (upA wA wa (uP, uC, uD, uJ, ur, ut, ud, ug), wY) H locs → lv_has ls 3 [(0, .ref (xAd κ (26 * wa + 15))), (2, .int x2)] → W p l e (xR 0 0 0) s m args below meth c H locs 0 0 Q (F0 m 2 ls []) := by
  have hx := hc.1.1
  have hb := hc.1.2.1
  intro n
  induction n with
  | zero =>
    intro x2 uD H locs ls hf
    rw [f_X2_removeAt_2] at hf
    cases hf
  | succ n hi =>
    intro x2 uD H locs ls hf hw hl
    rw [f_X2_removeAt_2] at hf
    refine lv_iload_n hx hb dX2_removeAt_2 rfl (lv_at hl 1 rfl) ?_
    refine lv_aload_n hx hb dX2_removeAt_3 rfl (lv_at hl 0 rfl) ?_
    refine x_get (v := .int uD.1) hc hw (ca_15 ha) fX2_9 rfl dX2_removeAt_4 ?_
    refine lv_iconst (v := 1) hx hb dX2_removeAt_7 (by decide) ?_
    refine lv_isub hx hb dX2_removeAt_8 ?_
    refine lv_icmp_ge (tgt := 88) hx hb dX2_removeAt_9 (by decide) (fun c1 => ?_) (fun c1 => ?_)
    · have hf := xif_t c1 hf
      refine lv_aload_n hx hb dX2_removeAt_88 rfl (lv_at hl 0 rfl) ?_
      refine lv_dup hx hb dX2_removeAt_89 rfl ?_
      refine x_get (v := .int uD.1) hc hw (ca_15 ha) fX2_9 rfl dX2_removeAt_90 ?_
      refine lv_iconst (v := 1) hx hb dX2_removeAt_93 (by decide) ?_
      refine lv_isub hx hb dX2_removeAt_94 ?_
      refine x_put (σ' := (upA wA wa (uP, uC, ((uD.1 - 1), uD.2.1, uD.2.2.1, uD.2.2.2.1, uD.2.2.2.2.1, uD.2.2.2.2.2), uJ, ur, ut, ud, ug), wY)) hc hw (ca_15 ha) fX2_9 rfl rfl (Nat.le_of_ble_eq_true rfl) (sa_2_0 ha) dX2_removeAt_95 (fun H locs hw => ?_)
      cases hf
      exact K _ _ _ _ dX2_removeAt_98 hw
    · have hf := xif_f c1 hf
      refine lv_aload_n hx hb dX2_removeAt_12 rfl (lv_at hl 0 rfl) ?_
      refine x_get (v := .ref (xAd κ (26 * wa + 16))) hc hw (ca_15 ha) fX2_15 rfl dX2_removeAt_13 ?_
      refine lv_iload_n hx hb dX2_removeAt_16 rfl (lv_at hl 1 rfl) ?_
      refine lv_aload_n hx hb dX2_removeAt_17 rfl (lv_at hl 0 rfl) ?_
      refine x_get (v := .ref (xAd κ (26 * wa + 16))) hc hw (ca_15 ha) fX2_15 rfl dX2_removeAt_18 ?_
      refine lv_iload_n hx hb dX2_removeAt_21 rfl (lv_at hl 1 rfl) ?_
      refine lv_iconst (v := 1) hx hb dX2_removeAt_22 (by decide) ?_
      refine lv_iadd hx hb dX2_removeAt_23 ?_
      obtain ⟨k2, hf⟩ := xk_of hf
      refine x_iald (n := 30) (f := uD.2.1) hc hw (ca_16 ha) k2 dX2_removeAt_24 ?_
      obtain ⟨k3, hf⟩ := xk_of hf
      refine x_iast (n := 30) (f := uD.2.1) (σ' := (upA wA wa (uP, uC, (uD.1, (upd uD.2.1 x2.toNatClampNeg (uD.2.1 (x2 + 1).toNatClampNeg)), uD.2.2.1, uD.2.2.2.1, uD.2.2.2.2.1, uD.2.2.2.2.2), uJ, ur, ut, ud, ug), wY)) hc hw (ca_16 ha) k3 (sa_2_1 ha) dX2_removeAt_25 (fun H locs hw => ?_)
      refine lv_aload_n hx hb dX2_removeAt_26 rfl (lv_at hl 0 rfl) ?_
      refine x_get (v := .ref (xAd κ (26 * wa + 17))) hc hw (ca_15 ha) fX2_19 rfl dX2_removeAt_27 ?_
      refine lv_iload_n hx hb dX2_removeAt_30 rfl (lv_at hl 1 rfl) ?_
      refine lv_aload_n hx hb dX2_removeAt_31 rfl (lv_at hl 0 rfl) ?_
      refine x_get (v := .ref (xAd κ (26 * wa + 17))) hc hw (ca_15 ha) fX2_19 rfl dX2_removeAt_32 ?_
      refine lv_iload_n hx hb dX2_removeAt_35 rfl (lv_at hl 1 rfl) ?_
      refine lv_iconst (v := 1) hx hb dX2_removeAt_36 (by decide) ?_
      refine lv_iadd hx hb dX2_removeAt_37 ?_
      obtain ⟨k4, hf⟩ := xk_of hf
      refine x_iald (n := 30) (f := uD.2.2.1) hc hw (ca_17 ha) k4 dX2_removeAt_38 ?_
      obtain ⟨k5, hf⟩ := xk_of hf
      refine x_iast (n := 30) (f := uD.2.2.1) (σ' := (upA wA wa (uP, uC, (uD.1, (upd uD.2.1 x2.toNatClampNeg (uD.2.1 (x2 + 1).toNatClampNeg)), (upd uD.2.2.1 x2.toNatClampNeg (uD.2.2.1 (x2 + 1).toNatClampNeg)), uD.2.2.2.1, uD.2.2.2.2.1, uD.2.2.2.2.2), uJ, ur, ut, ud, ug), wY)) hc hw (ca_17 ha) k5 (sa_2_2 ha) dX2_removeAt_39 (fun H locs hw => ?_)
      refine lv_aload_n hx hb dX2_removeAt_40 rfl (lv_at hl 0 rfl) ?_
      refine x_get (v := .ref (xAd κ (26 * wa + 18))) hc hw (ca_15 ha) fX2_22 rfl dX2_removeAt_41 ?_
      refine lv_iload_n hx hb dX2_removeAt_44 rfl (lv_at hl 1 rfl) ?_
      refine lv_aload_n hx hb dX2_removeAt_45 rfl (lv_at hl 0 rfl) ?_
      refine x_get (v := .ref (xAd κ (26 * wa + 18))) hc hw (ca_15 ha) fX2_22 rfl dX2_removeAt_46 ?_
      refine lv_iload_n hx hb dX2_removeAt_49 rfl (lv_at hl 1 rfl) ?_
      refine lv_iconst (v := 1) hx hb dX2_removeAt_50 (by decide) ?_
      refine lv_iadd hx hb dX2_removeAt_51 ?_
      obtain ⟨k6, hf⟩ := xk_of hf
      refine x_lald (n := 30) (f := uD.2.2.2.1) hc hw (ca_18 ha) k6 dX2_removeAt_52 ?_
      obtain ⟨k7, hf⟩ := xk_of hf
      refine x_last (n := 30) (f := uD.2.2.2.1) (σ' := (upA wA wa (uP, uC, (uD.1, (upd uD.2.1 x2.toNatClampNeg (uD.2.1 (x2 + 1).toNatClampNeg)), (upd uD.2.2.1 x2.toNatClampNeg (uD.2.2.1 (x2 + 1).toNatClampNeg)), (vp_updL uD.2.2.2.1 x2.toNatClampNeg (uD.2.2.2.1 (x2 + 1).toNatClampNeg)), uD.2.2.2.2.1, uD.2.2.2.2.2), uJ, ur, ut, ud, ug), wY)) hc hw (ca_18 ha) k7 (sa_2_3 ha) dX2_removeAt_53 (fun H locs hw => ?_)
      refine lv_aload_n hx hb dX2_removeAt_54 rfl (lv_at hl 0 rfl) ?_
      refine x_get (v := .ref (xAd κ (26 * wa + 19))) hc hw (ca_15 ha) fX2_26 rfl dX2_removeAt_55 ?_
      refine lv_iload_n hx hb dX2_removeAt_58 rfl (lv_at hl 1 rfl) ?_
      refine lv_aload_n hx hb dX2_removeAt_59 rfl (lv_at hl 0 rfl) ?_
      refine x_get (v := .ref (xAd κ (26 * wa + 19))) hc hw (ca_15 ha) fX2_26 rfl dX2_removeAt_60 ?_
      refine lv_iload_n hx hb dX2_removeAt_63 rfl (lv_at hl 1 rfl) ?_
      refine lv_iconst (v := 1) hx hb dX2_removeAt_64 (by decide) ?_
      refine lv_iadd hx hb dX2_removeAt_65 ?_
      obtain ⟨k8, hf⟩ := xk_of hf
      refine x_lald (n := 30) (f := uD.2.2.2.2.1) hc hw (ca_19 ha) k8 dX2_removeAt_66 ?_
      obtain ⟨k9, hf⟩ := xk_of hf
      refine x_last (n := 30) (f := uD.2.2.2.2.1) (σ' := (upA wA wa (uP, uC, (uD.1, (upd uD.2.1 x2.toNatClampNeg (uD.2.1 (x2 + 1).toNatClampNeg)), (upd uD.2.2.1 x2.toNatClampNeg (uD.2.2.1 (x2 + 1).toNatClampNeg)), (vp_updL uD.2.2.2.1 x2.toNatClampNeg (uD.2.2.2.1 (x2 + 1).toNatClampNeg)), (vp_updL uD.2.2.2.2.1 x2.toNatClampNeg (uD.2.2.2.2.1 (x2 + 1).toNatClampNeg)), uD.2.2.2.2.2), uJ, ur, ut, ud, ug), wY)) hc hw (ca_19 ha) k9 (sa_2_4 ha) dX2_removeAt_67 (fun H locs hw => ?_)
      refine lv_aload_n hx hb dX2_removeAt_68 rfl (lv_at hl 0 rfl) ?_
      refine x_get (v := .ref (xAd κ (26 * wa + 20))) hc hw (ca_15 ha) fX2_29 rfl dX2_removeAt_69 ?_
      refine lv_iload_n hx hb dX2_removeAt_72 rfl (lv_at hl 1 rfl) ?_
      refine lv_aload_n hx hb dX2_removeAt_73 rfl (lv_at hl 0 rfl) ?_
      refine x_get (v := .ref (xAd κ (26 * wa + 20))) hc hw (ca_15 ha) fX2_29 rfl dX2_removeAt_74 ?_
      refine lv_iload_n hx hb dX2_removeAt_77 rfl (lv_at hl 1 rfl) ?_
      refine lv_iconst (v := 1) hx hb dX2_removeAt_78 (by decide) ?_
      refine lv_iadd hx hb dX2_removeAt_79 ?_
      obtain ⟨k10, hf⟩ := xk_of hf
      refine x_lald (n := 30) (f := uD.2.2.2.2.2) hc hw (ca_20 ha) k10 dX2_removeAt_80 ?_
      obtain ⟨k11, hf⟩ := xk_of hf
      refine x_last (n := 30) (f := uD.2.2.2.2.2) (σ' := (upA wA wa (uP, uC, (uD.1, (upd uD.2.1 x2.toNatClampNeg (uD.2.1 (x2 + 1).toNatClampNeg)), (upd uD.2.2.1 x2.toNatClampNeg (uD.2.2.1 (x2 + 1).toNatClampNeg)), (vp_updL uD.2.2.2.1 x2.toNatClampNeg (uD.2.2.2.1 (x2 + 1).toNatClampNeg)), (vp_updL uD.2.2.2.2.1 x2.toNatClampNeg (uD.2.2.2.2.1 (x2 + 1).toNatClampNeg)), (vp_updL uD.2.2.2.2.2 x2.toNatClampNeg (uD.2.2.2.2.2 (x2 + 1).toNatClampNeg))), uJ, ur, ut, ud, ug), wY)) hc hw (ca_20 ha) k11 (sa_2_5 ha) dX2_removeAt_81 (fun H locs hw => ?_)
      refine lv_iinc (v := (x2 + 1)) (lv' := [(2, .int (x2 + 1)), (0, .ref (xAd κ (26 * wa + 15)))]) hx hb dX2_removeAt_82 hl (k := 1) rfl rfl (by decide) rfl (fun ls hl => ?_)
      refine lv_goto (tgt := 2) hx hb dX2_removeAt_85 (by decide) ?_
      exact hi _ _ _ _ _ hf hw (lv_sub hl [1, 0] rfl)
set_option maxHeartbeats 4000000 in
set_option maxRecDepth 100000 in
theorem m_X2_removeAt {l : Launch} {κ : xKt} {wA : Nat → sAcc} {wa : Nat} {wY : sTxt × sRng × sMai × sRef × sOut} (ha : wa < 9) {fu : Nat} {x1 : Int32} {uP : sPar} {uC : sCla} {uD : sDeb} {uJ : sJou} {ur : xF32} {ut : xF32} {ud : Int32} {ug : Int32} {yD : sDeb} (hf : f_X2_removeAt fu x1 uD = some yD) : xMv l κ yX2_removeAt cX2_removeAt 3 none (xR 0 0 0) [.ref (xAd κ (26 * wa + 15)), .int x1] (upA wA wa (uP, uC, uD, uJ, ur, ut, ud, ug), wY) (upA wA wa (uP, uC, yD, uJ, ur, ut, ud, ug), wY) := by
  unfold f_X2_removeAt at hf
  refine xMv_of pn_X2 (Nat.le_of_ble_eq_true rfl) ⟨rfl, rfl⟩ ?_
  intro A p e s m args below meth c ls Q hc hw hl K
  have hc : xC κ A p s m args meth c cX2_removeAt RX2 3 none := hc
  have hx := hc.1.1
  have hb := hc.1.2.1
  have hl : lv_has ls 3 [(0, .ref (xAd κ (26 * wa + 15))), (1, .int x1)] := hl
  refine lv_iload_n hx hb dX2_removeAt_0 rfl (lv_at hl 1 rfl) ?_
  refine lv_istore_n (lv' := [(2, .int x1), (0, .ref (xAd κ (26 * wa + 15))), (1, .int x1)]) hx hb dX2_removeAt_1 rfl hl (by decide) rfl (fun ls hl => ?_)
  exact l_X2_removeAt_2 ha hc K fu _ _ _ _ _ hf hw (lv_sub hl [1, 0] rfl)
def f_X2_reduce (fu : Nat) (x1 : Int32) (x2 : Int32) (x3 : Int64) (uD : sDeb) : Option sDeb :=
  xb1 (f_X2_indexOf fu x1 x2 uD) fun v1 => (if v1 = (-1) then (some uD) else (xk (xin v1 30) (xk (xin v1 30) (xk (xin v1 30) (xk (xin v1 30) (xk (xin v1 30) (xb1 (f_X2_amountOf v1 (uD.1, uD.2.1, uD.2.2.1, (vp_updL uD.2.2.2.1 v1.toNatClampNeg ((uD.2.2.2.1 v1.toNatClampNeg) - (x3 - (xminL x3 (uD.2.2.2.2.1 v1.toNatClampNeg))))), (vp_updL uD.2.2.2.2.1 v1.toNatClampNeg ((uD.2.2.2.2.1 v1.toNatClampNeg) - (xminL x3 (uD.2.2.2.2.1 v1.toNatClampNeg)))), uD.2.2.2.2.2)) fun v9 => (if 0 < v9 then (some ((uD.1, uD.2.1, uD.2.2.1, (vp_updL uD.2.2.2.1 v1.toNatClampNeg ((uD.2.2.2.1 v1.toNatClampNeg) - (x3 - (xminL x3 (uD.2.2.2.2.1 v1.toNatClampNeg))))), (vp_updL uD.2.2.2.2.1 v1.toNatClampNeg ((uD.2.2.2.2.1 v1.toNatClampNeg) - (xminL x3 (uD.2.2.2.2.1 v1.toNatClampNeg)))), uD.2.2.2.2.2))) else (xb1 (f_X2_removeAt fu v1 (uD.1, uD.2.1, uD.2.2.1, (vp_updL uD.2.2.2.1 v1.toNatClampNeg ((uD.2.2.2.1 v1.toNatClampNeg) - (x3 - (xminL x3 (uD.2.2.2.2.1 v1.toNatClampNeg))))), (vp_updL uD.2.2.2.2.1 v1.toNatClampNeg ((uD.2.2.2.2.1 v1.toNatClampNeg) - (xminL x3 (uD.2.2.2.2.1 v1.toNatClampNeg)))), uD.2.2.2.2.2)) fun uD_12 => (some uD_12))))))))))
set_option maxHeartbeats 4000000 in
set_option maxRecDepth 100000 in
theorem m_X2_reduce {l : Launch} {κ : xKt} {wA : Nat → sAcc} {wa : Nat} {wY : sTxt × sRng × sMai × sRef × sOut} (ha : wa < 9) {fu : Nat} {x1 : Int32} {x2 : Int32} {x3 : Int64} {uP : sPar} {uC : sCla} {uD : sDeb} {uJ : sJou} {ur : xF32} {ut : xF32} {ud : Int32} {ug : Int32} {yD : sDeb} (hf : f_X2_reduce fu x1 x2 x3 uD = some yD) : xMv l κ yX2_reduce cX2_reduce 8 none (xR 1 0 0) [.ref (xAd κ (26 * wa + 15)), .int x1, .int x2, .long x3] (upA wA wa (uP, uC, uD, uJ, ur, ut, ud, ug), wY) (upA wA wa (uP, uC, yD, uJ, ur, ut, ud, ug), wY) := by
  unfold f_X2_reduce at hf
  refine xMv_of pn_X2 (Nat.le_of_ble_eq_true rfl) ⟨rfl, rfl⟩ ?_
  intro A p e s m args below meth c ls Q hc hw hl K
  have hc : xC κ A p s m args meth c cX2_reduce RX2 8 none := hc
  have hx := hc.1.1
  have hb := hc.1.2.1
  have hl : lv_has ls 8 [(0, .ref (xAd κ (26 * wa + 15))), (1, .int x1), (2, .int x2), (3, .long x3)] := hl
  refine lv_aload_n hx hb dX2_reduce_0 rfl (lv_at hl 0 rfl) ?_
  refine lv_iload_n hx hb dX2_reduce_1 rfl (lv_at hl 1 rfl) ?_
  refine lv_iload_n hx hb dX2_reduce_2 rfl (lv_at hl 2 rfl) ?_
  obtain ⟨v1, h2, hf⟩ := xb1_of hf
  refine x_calliV (As := [.int x1, .int x2]) (rest := []) (σ' := (upA wA wa (uP, uC, uD, uJ, ur, ut, ud, ug), wY)) hc hw hl.1 (m_X2_indexOf ha h2) kX2_38 (ca_15 ha) rfl rfl ⟨rfl, rfl⟩ ⟨Nat.le_of_ble_eq_true rfl, Nat.le_of_ble_eq_true rfl⟩ ⟨Nat.zero_le _, Nat.zero_le _⟩ (Nat.le_of_ble_eq_true rfl) dX2_reduce_3 (fun H locs hw => ?_)
  refine lv_istore (lv' := [(5, .int v1), (0, .ref (xAd κ (26 * wa + 15))), (1, .int x1), (2, .int x2), (3, .long x3)]) hx hb dX2_reduce_6 hl (by decide) rfl (fun ls hl => ?_)
  refine lv_iload hx hb dX2_reduce_8 (lv_at hl 0 rfl) ?_
  refine lv_iconst (v := (-1)) hx hb dX2_reduce_10 (by decide) ?_
  refine lv_icmp_ne (tgt := 15) hx hb dX2_reduce_11 (by decide) (fun c3 => ?_) (fun c3 => ?_)
  · have hf := xif_f c3 hf
    refine lv_lload_n hx hb dX2_reduce_15 rfl (lv_at hl 4 rfl) ?_
    refine lv_aload_n hx hb dX2_reduce_16 rfl (lv_at hl 1 rfl) ?_
    refine x_get (v := .ref (xAd κ (26 * wa + 19))) hc hw (ca_15 ha) fX2_26 rfl dX2_reduce_17 ?_
    refine lv_iload hx hb dX2_reduce_20 (lv_at hl 0 rfl) ?_
    obtain ⟨k4, hf⟩ := xk_of hf
    refine x_lald (n := 30) (f := uD.2.2.2.2.1) hc hw (ca_19 ha) k4 dX2_reduce_22 ?_
    refine x_minL hc hl.1 mw_X2_46 ⟨Nat.le_of_ble_eq_true rfl, Nat.le_of_ble_eq_true rfl⟩ ⟨Nat.zero_le _, Nat.zero_le _⟩ dX2_reduce_23 ?_
    refine lv_lstore (lv' := [(6, .long (xminL x3 (uD.2.2.2.2.1 v1.toNatClampNeg))), (5, .int v1), (0, .ref (xAd κ (26 * wa + 15))), (1, .int x1), (2, .int x2), (3, .long x3)]) hx hb dX2_reduce_26 hl (by decide) rfl (fun ls hl => ?_)
    refine lv_aload_n hx hb dX2_reduce_28 rfl (lv_at hl 2 rfl) ?_
    refine x_get (v := .ref (xAd κ (26 * wa + 19))) hc hw (ca_15 ha) fX2_26 rfl dX2_reduce_29 ?_
    refine lv_iload hx hb dX2_reduce_32 (lv_at hl 1 rfl) ?_
    refine lv_dup2_11 hx hb dX2_reduce_34 rfl rfl ?_
    obtain ⟨k5, hf⟩ := xk_of hf
    refine x_lald (n := 30) (f := uD.2.2.2.2.1) hc hw (ca_19 ha) k5 dX2_reduce_35 ?_
    refine lv_lload hx hb dX2_reduce_36 (lv_at hl 0 rfl) ?_
    refine lv_lsub hx hb dX2_reduce_38 ?_
    obtain ⟨k6, hf⟩ := xk_of hf
    refine x_last (n := 30) (f := uD.2.2.2.2.1) (σ' := (upA wA wa (uP, uC, (uD.1, uD.2.1, uD.2.2.1, uD.2.2.2.1, (vp_updL uD.2.2.2.2.1 v1.toNatClampNeg ((uD.2.2.2.2.1 v1.toNatClampNeg) - (xminL x3 (uD.2.2.2.2.1 v1.toNatClampNeg)))), uD.2.2.2.2.2), uJ, ur, ut, ud, ug), wY)) hc hw (ca_19 ha) k6 (sa_2_4 ha) dX2_reduce_39 (fun H locs hw => ?_)
    refine lv_aload_n hx hb dX2_reduce_40 rfl (lv_at hl 2 rfl) ?_
    refine x_get (v := .ref (xAd κ (26 * wa + 18))) hc hw (ca_15 ha) fX2_22 rfl dX2_reduce_41 ?_
    refine lv_iload hx hb dX2_reduce_44 (lv_at hl 1 rfl) ?_
    refine lv_dup2_11 hx hb dX2_reduce_46 rfl rfl ?_
    obtain ⟨k7, hf⟩ := xk_of hf
    refine x_lald (n := 30) (f := uD.2.2.2.1) hc hw (ca_18 ha) k7 dX2_reduce_47 ?_
    refine lv_lload_n hx hb dX2_reduce_48 rfl (lv_at hl 5 rfl) ?_
    refine lv_lload hx hb dX2_reduce_49 (lv_at hl 0 rfl) ?_
    refine lv_lsub hx hb dX2_reduce_51 ?_
    refine lv_lsub hx hb dX2_reduce_52 ?_
    obtain ⟨k8, hf⟩ := xk_of hf
    refine x_last (n := 30) (f := uD.2.2.2.1) (σ' := (upA wA wa (uP, uC, (uD.1, uD.2.1, uD.2.2.1, (vp_updL uD.2.2.2.1 v1.toNatClampNeg ((uD.2.2.2.1 v1.toNatClampNeg) - (x3 - (xminL x3 (uD.2.2.2.2.1 v1.toNatClampNeg))))), (vp_updL uD.2.2.2.2.1 v1.toNatClampNeg ((uD.2.2.2.2.1 v1.toNatClampNeg) - (xminL x3 (uD.2.2.2.2.1 v1.toNatClampNeg)))), uD.2.2.2.2.2), uJ, ur, ut, ud, ug), wY)) hc hw (ca_18 ha) k8 (sa_2_3 ha) dX2_reduce_53 (fun H locs hw => ?_)
    refine lv_aload_n hx hb dX2_reduce_54 rfl (lv_at hl 2 rfl) ?_
    refine lv_iload hx hb dX2_reduce_55 (lv_at hl 1 rfl) ?_
    obtain ⟨v9, h10, hf⟩ := xb1_of hf
    refine x_calllV (As := [.int v1]) (rest := []) (σ' := (upA wA wa (uP, uC, (uD.1, uD.2.1, uD.2.2.1, (vp_updL uD.2.2.2.1 v1.toNatClampNeg ((uD.2.2.2.1 v1.toNatClampNeg) - (x3 - (xminL x3 (uD.2.2.2.2.1 v1.toNatClampNeg))))), (vp_updL uD.2.2.2.2.1 v1.toNatClampNeg ((uD.2.2.2.2.1 v1.toNatClampNeg) - (xminL x3 (uD.2.2.2.2.1 v1.toNatClampNeg)))), uD.2.2.2.2.2), uJ, ur, ut, ud, ug), wY)) hc hw hl.1 (m_X2_amountOf ha h10) kX2_42 (ca_15 ha) rfl rfl ⟨rfl, rfl⟩ ⟨Nat.le_of_ble_eq_true rfl, Nat.le_of_ble_eq_true rfl⟩ ⟨Nat.zero_le _, Nat.zero_le _⟩ (Nat.le_of_ble_eq_true rfl) dX2_reduce_57 (fun H locs hw => ?_)
    refine lv_lconst (v := 0) hx hb dX2_reduce_60 (by decide) ?_
    refine x_lcmp_gt (tgt := 71) hx hb dX2_reduce_61 dX2_reduce_62 (by decide) (fun c11 => ?_) (fun c11 => ?_)
    · have hf := xif_t c11 hf
      cases hf
      exact K _ _ _ _ dX2_reduce_71 hw
    · have hf := xif_f c11 hf
      refine lv_aload_n hx hb dX2_reduce_65 rfl (lv_at hl 2 rfl) ?_
      refine lv_iload hx hb dX2_reduce_66 (lv_at hl 1 rfl) ?_
      obtain ⟨uD_12, h13, hf⟩ := xb1_of hf
      refine x_callvV (As := [.int v1]) (rest := []) (σ' := (upA wA wa (uP, uC, uD_12, uJ, ur, ut, ud, ug), wY)) hc hw hl.1 (m_X2_removeAt ha h13) kX2_52 (ca_15 ha) rfl rfl ⟨rfl, rfl⟩ ⟨Nat.le_of_ble_eq_true rfl, Nat.le_of_ble_eq_true rfl⟩ ⟨Nat.zero_le _, Nat.zero_le _⟩ (Nat.le_of_ble_eq_true rfl) dX2_reduce_68 (fun H locs hw => ?_)
      cases hf
      exact K _ _ _ _ dX2_reduce_71 hw
  · have hf := xif_t c3 hf
    cases hf
    exact K _ _ _ _ dX2_reduce_14 hw
def f_X2_addInterest_5 (fu : Nat) : Nat → (Int32) → (Int32) → (Int64) → (Int32) → (sDeb) → Option (Int64 × sDeb)
  | 0, _, _, _, _, _ => none
  | n + 1, x1, x2, x3, x5, uD => if uD.1 ≤ x5 then (some (x3, uD)) else (xk (xin x5 30) (xk (xin x5 30) (xk (xin x5 30) (xk (xin x5 30) (xk (xin x5 30) (f_X2_addInterest_5 fu n x1 x2 (x3 + (((uD.2.2.2.2.2 x5.toNatClampNeg) + (((uD.2.2.2.1 x5.toNatClampNeg) * x2.toInt64) * x1.toInt64)) / 3600000)) (x5 + 1) (uD.1, uD.2.1, uD.2.2.1, uD.2.2.2.1, (vp_updL uD.2.2.2.2.1 x5.toNatClampNeg ((uD.2.2.2.2.1 x5.toNatClampNeg) + (((uD.2.2.2.2.2 x5.toNatClampNeg) + (((uD.2.2.2.1 x5.toNatClampNeg) * x2.toInt64) * x1.toInt64)) / 3600000))), (vp_updL uD.2.2.2.2.2 x5.toNatClampNeg (((uD.2.2.2.2.2 x5.toNatClampNeg) + (((uD.2.2.2.1 x5.toNatClampNeg) * x2.toInt64) * x1.toInt64)) - ((uD.2.2.2.2.2 x5.toNatClampNeg) + (((uD.2.2.2.1 x5.toNatClampNeg) * x2.toInt64) * x1.toInt64)) / 3600000 * 3600000)))))))))
def f_X2_addInterest (fu : Nat) (x1 : Int32) (x2 : Int32) (uD : sDeb) : Option (Int64 × sDeb) :=
  f_X2_addInterest_5 fu fu x1 x2 0 0 uD
set_option maxHeartbeats 4000000 in
set_option maxRecDepth 100000 in
theorem l_X2_addInterest_5 {l : Launch} {κ : xKt} {wA : Nat → sAcc} {wa : Nat} {wY : sTxt × sRng × sMai × sRef × sOut} (ha : wa < 9) {fu : Nat} {uP : sPar} {uC : sCla} {uJ : sJou} {ur : xF32} {ut : xF32} {ud : Int32} {ug : Int32} {A : Nat → Prop} {p : Program} {e : Env} {s : State} {m : MethodId} {args : Array Value} {below : List Frame} {meth : Method} {c : Code} {Q : State → Prop} {rr : Int64} {yD : sDeb}
    (hc : xC κ A p s m args meth c cX2_addInterest RX2 10 (some .long))
    (K : ∀ (pc : Nat) (ls : Array Slot) (H : Heap) (locs : List Loc), decode cX2_addInterest pc = .ok (.lreturn, 1) → xW κ A s (upA wA wa (uP, uC, yD, uJ, ur, ut, ud, ug), wY) H locs → W p l e (xR 0 0 0) s m args below meth c H locs 0 0 Q (F0 m pc ls [.long rr])) :
    ∀ (n : Nat) (x1 : Int32) (x2 : Int32) (x3 : Int64) (x5 : Int32) (uD : sDeb) (H : Heap) (locs : List Loc) (ls : Array Slot), f_X2_addInterest_5 fu n x1 x2 x3 x5 uD = some (rr, yD) → xW κ A s (upA wA wa (uP, uC, uD, uJ, ur, ut, ud, ug), wY) H locs → lv_has ls 10 [(0, .ref (xAd κ (26 * wa + 15))), (1, .int x1), (2, .int x2), (3, .long x3), (5, .int x5)] → W p l e (xR 0 0 0) s m args below meth c H locs 0 0 Q (F0 m 5 ls []) := by
  have hx := hc.1.1
  have hb := hc.1.2.1
  intro n
  induction n with
  | zero =>
    intro x1 x2 x3 x5 uD H locs ls hf
    rw [f_X2_addInterest_5] at hf
    cases hf
  | succ n hi =>
    intro x1 x2 x3 x5 uD H locs ls hf hw hl
    rw [f_X2_addInterest_5] at hf
    refine lv_iload hx hb dX2_addInterest_5 (lv_at hl 4 rfl) ?_
    refine lv_aload_n hx hb dX2_addInterest_7 rfl (lv_at hl 0 rfl) ?_
    refine x_get (v := .int uD.1) hc hw (ca_15 ha) fX2_9 rfl dX2_addInterest_8 ?_
    refine lv_icmp_ge (tgt := 81) hx hb dX2_addInterest_11 (by decide) (fun c1 => ?_) (fun c1 => ?_)
    · have hf := xif_t c1 hf
      refine lv_lload_n hx hb dX2_addInterest_81 rfl (lv_at hl 3 rfl) ?_
      cases hf
      exact K _ _ _ _ dX2_addInterest_82 hw
    · have hf := xif_f c1 hf
      refine lv_aload_n hx hb dX2_addInterest_14 rfl (lv_at hl 0 rfl) ?_
      refine x_get (v := .ref (xAd κ (26 * wa + 20))) hc hw (ca_15 ha) fX2_29 rfl dX2_addInterest_15 ?_
      refine lv_iload hx hb dX2_addInterest_18 (lv_at hl 4 rfl) ?_
      obtain ⟨k2, hf⟩ := xk_of hf
      refine x_lald (n := 30) (f := uD.2.2.2.2.2) hc hw (ca_20 ha) k2 dX2_addInterest_20 ?_
      refine lv_aload_n hx hb dX2_addInterest_21 rfl (lv_at hl 0 rfl) ?_
      refine x_get (v := .ref (xAd κ (26 * wa + 18))) hc hw (ca_15 ha) fX2_22 rfl dX2_addInterest_22 ?_
      refine lv_iload hx hb dX2_addInterest_25 (lv_at hl 4 rfl) ?_
      obtain ⟨k3, hf⟩ := xk_of hf
      refine x_lald (n := 30) (f := uD.2.2.2.1) hc hw (ca_18 ha) k3 dX2_addInterest_27 ?_
      refine lv_iload_n hx hb dX2_addInterest_28 rfl (lv_at hl 2 rfl) ?_
      refine lv_i2l (v := x2.toInt64) hx hb dX2_addInterest_29 rfl ?_
      refine lv_lmul hx hb dX2_addInterest_30 ?_
      refine lv_iload_n hx hb dX2_addInterest_31 rfl (lv_at hl 1 rfl) ?_
      refine lv_i2l (v := x1.toInt64) hx hb dX2_addInterest_32 rfl ?_
      refine lv_lmul hx hb dX2_addInterest_33 ?_
      refine lv_ladd hx hb dX2_addInterest_34 ?_
      refine lv_lstore (lv' := [(6, .long ((uD.2.2.2.2.2 x5.toNatClampNeg) + (((uD.2.2.2.1 x5.toNatClampNeg) * x2.toInt64) * x1.toInt64))), (0, .ref (xAd κ (26 * wa + 15))), (1, .int x1), (2, .int x2), (3, .long x3), (5, .int x5)]) hx hb dX2_addInterest_35 hl (by decide) rfl (fun ls hl => ?_)
      refine lv_lload hx hb dX2_addInterest_37 (lv_at hl 0 rfl) ?_
      refine x_ldc2 hc w_constantLong_RX2_56_3600000 dX2_addInterest_39 ?_
      refine lv_ldiv hx hb dX2_addInterest_42 (by decide) ?_
      refine lv_lstore (lv' := [(8, .long (((uD.2.2.2.2.2 x5.toNatClampNeg) + (((uD.2.2.2.1 x5.toNatClampNeg) * x2.toInt64) * x1.toInt64)) / 3600000)), (6, .long ((uD.2.2.2.2.2 x5.toNatClampNeg) + (((uD.2.2.2.1 x5.toNatClampNeg) * x2.toInt64) * x1.toInt64))), (0, .ref (xAd κ (26 * wa + 15))), (1, .int x1), (2, .int x2), (3, .long x3), (5, .int x5)]) hx hb dX2_addInterest_43 hl (by decide) rfl (fun ls hl => ?_)
      refine lv_aload_n hx hb dX2_addInterest_45 rfl (lv_at hl 2 rfl) ?_
      refine x_get (v := .ref (xAd κ (26 * wa + 20))) hc hw (ca_15 ha) fX2_29 rfl dX2_addInterest_46 ?_
      refine lv_iload hx hb dX2_addInterest_49 (lv_at hl 6 rfl) ?_
      refine lv_lload hx hb dX2_addInterest_51 (lv_at hl 1 rfl) ?_
      refine x_ldc2 hc w_constantLong_RX2_56_3600000 dX2_addInterest_53 ?_
      refine lv_lrem hx hb dX2_addInterest_56 (by decide) ?_
      obtain ⟨k4, hf⟩ := xk_of hf
      refine x_last (n := 30) (f := uD.2.2.2.2.2) (σ' := (upA wA wa (uP, uC, (uD.1, uD.2.1, uD.2.2.1, uD.2.2.2.1, uD.2.2.2.2.1, (vp_updL uD.2.2.2.2.2 x5.toNatClampNeg (((uD.2.2.2.2.2 x5.toNatClampNeg) + (((uD.2.2.2.1 x5.toNatClampNeg) * x2.toInt64) * x1.toInt64)) - ((uD.2.2.2.2.2 x5.toNatClampNeg) + (((uD.2.2.2.1 x5.toNatClampNeg) * x2.toInt64) * x1.toInt64)) / 3600000 * 3600000))), uJ, ur, ut, ud, ug), wY)) hc hw (ca_20 ha) k4 (sa_2_5 ha) dX2_addInterest_57 (fun H locs hw => ?_)
      refine lv_aload_n hx hb dX2_addInterest_58 rfl (lv_at hl 2 rfl) ?_
      refine x_get (v := .ref (xAd κ (26 * wa + 19))) hc hw (ca_15 ha) fX2_26 rfl dX2_addInterest_59 ?_
      refine lv_iload hx hb dX2_addInterest_62 (lv_at hl 6 rfl) ?_
      refine lv_dup2_11 hx hb dX2_addInterest_64 rfl rfl ?_
      obtain ⟨k5, hf⟩ := xk_of hf
      refine x_lald (n := 30) (f := uD.2.2.2.2.1) hc hw (ca_19 ha) k5 dX2_addInterest_65 ?_
      refine lv_lload hx hb dX2_addInterest_66 (lv_at hl 0 rfl) ?_
      refine lv_ladd hx hb dX2_addInterest_68 ?_
      obtain ⟨k6, hf⟩ := xk_of hf
      refine x_last (n := 30) (f := uD.2.2.2.2.1) (σ' := (upA wA wa (uP, uC, (uD.1, uD.2.1, uD.2.2.1, uD.2.2.2.1, (vp_updL uD.2.2.2.2.1 x5.toNatClampNeg ((uD.2.2.2.2.1 x5.toNatClampNeg) + (((uD.2.2.2.2.2 x5.toNatClampNeg) + (((uD.2.2.2.1 x5.toNatClampNeg) * x2.toInt64) * x1.toInt64)) / 3600000))), (vp_updL uD.2.2.2.2.2 x5.toNatClampNeg (((uD.2.2.2.2.2 x5.toNatClampNeg) + (((uD.2.2.2.1 x5.toNatClampNeg) * x2.toInt64) * x1.toInt64)) - ((uD.2.2.2.2.2 x5.toNatClampNeg) + (((uD.2.2.2.1 x5.toNatClampNeg) * x2.toInt64) * x1.toInt64)) / 3600000 * 3600000))), uJ, ur, ut, ud, ug), wY)) hc hw (ca_19 ha) k6 (sa_2_4 ha) dX2_addInterest_69 (fun H locs hw => ?_)
      refine lv_lload_n hx hb dX2_addInterest_70 rfl (lv_at hl 5 rfl) ?_
      refine lv_lload hx hb dX2_addInterest_71 (lv_at hl 0 rfl) ?_
      refine lv_ladd hx hb dX2_addInterest_73 ?_
      refine lv_lstore_n (lv' := [(3, .long (x3 + (((uD.2.2.2.2.2 x5.toNatClampNeg) + (((uD.2.2.2.1 x5.toNatClampNeg) * x2.toInt64) * x1.toInt64)) / 3600000))), (8, .long (((uD.2.2.2.2.2 x5.toNatClampNeg) + (((uD.2.2.2.1 x5.toNatClampNeg) * x2.toInt64) * x1.toInt64)) / 3600000)), (6, .long ((uD.2.2.2.2.2 x5.toNatClampNeg) + (((uD.2.2.2.1 x5.toNatClampNeg) * x2.toInt64) * x1.toInt64))), (0, .ref (xAd κ (26 * wa + 15))), (1, .int x1), (2, .int x2), (5, .int x5)]) hx hb dX2_addInterest_74 rfl hl (by decide) rfl (fun ls hl => ?_)
      refine lv_iinc (v := (x5 + 1)) (lv' := [(5, .int (x5 + 1)), (3, .long (x3 + (((uD.2.2.2.2.2 x5.toNatClampNeg) + (((uD.2.2.2.1 x5.toNatClampNeg) * x2.toInt64) * x1.toInt64)) / 3600000))), (8, .long (((uD.2.2.2.2.2 x5.toNatClampNeg) + (((uD.2.2.2.1 x5.toNatClampNeg) * x2.toInt64) * x1.toInt64)) / 3600000)), (6, .long ((uD.2.2.2.2.2 x5.toNatClampNeg) + (((uD.2.2.2.1 x5.toNatClampNeg) * x2.toInt64) * x1.toInt64))), (0, .ref (xAd κ (26 * wa + 15))), (1, .int x1), (2, .int x2)]) hx hb dX2_addInterest_75 hl (k := 6) rfl rfl (by decide) rfl (fun ls hl => ?_)
      refine lv_goto (tgt := 5) hx hb dX2_addInterest_78 (by decide) ?_
      exact hi _ _ _ _ _ _ _ _ hf hw (lv_sub hl [4, 5, 6, 1, 0] rfl)
set_option maxHeartbeats 4000000 in
set_option maxRecDepth 100000 in
theorem m_X2_addInterest {l : Launch} {κ : xKt} {wA : Nat → sAcc} {wa : Nat} {wY : sTxt × sRng × sMai × sRef × sOut} (ha : wa < 9) {fu : Nat} {x1 : Int32} {x2 : Int32} {uP : sPar} {uC : sCla} {uD : sDeb} {uJ : sJou} {ur : xF32} {ut : xF32} {ud : Int32} {ug : Int32} {rr : Int64} {yD : sDeb} (hf : f_X2_addInterest fu x1 x2 uD = some (rr, yD)) : xMl l κ yX2_addInterest cX2_addInterest 10 (some .long) (xR 0 0 0) [.ref (xAd κ (26 * wa + 15)), .int x1, .int x2] (upA wA wa (uP, uC, uD, uJ, ur, ut, ud, ug), wY) (upA wA wa (uP, uC, yD, uJ, ur, ut, ud, ug), wY) rr := by
  unfold f_X2_addInterest at hf
  refine xMl_of pn_X2 (Nat.le_of_ble_eq_true rfl) ⟨rfl, rfl⟩ ?_
  intro A p e s m args below meth c ls Q hc hw hl K
  have hc : xC κ A p s m args meth c cX2_addInterest RX2 10 (some .long) := hc
  have hx := hc.1.1
  have hb := hc.1.2.1
  have hl : lv_has ls 10 [(0, .ref (xAd κ (26 * wa + 15))), (1, .int x1), (2, .int x2)] := hl
  refine lv_lconst (v := 0) hx hb dX2_addInterest_0 (by decide) ?_
  refine lv_lstore_n (lv' := [(3, .long 0), (0, .ref (xAd κ (26 * wa + 15))), (1, .int x1), (2, .int x2)]) hx hb dX2_addInterest_1 rfl hl (by decide) rfl (fun ls hl => ?_)
  refine lv_iconst (v := 0) hx hb dX2_addInterest_2 (by decide) ?_
  refine lv_istore (lv' := [(5, .int 0), (3, .long 0), (0, .ref (xAd κ (26 * wa + 15))), (1, .int x1), (2, .int x2)]) hx hb dX2_addInterest_3 hl (by decide) rfl (fun ls hl => ?_)
  exact l_X2_addInterest_5 ha hc K fu _ _ _ _ _ _ _ _ hf hw (lv_sub hl [2, 3, 4, 1, 0] rfl)
def f_X2_allOwedBy_5 (fu : Nat) (uD : sDeb) : Nat → (Int32) → (Int64) → (Int32) → Option Int64
  | 0, _, _, _ => none
  | n + 1, x1, x2, x4 => if uD.1 ≤ x4 then (some x2) else (xk (xin x4 30) (if (uD.2.1 x4.toNatClampNeg) = x1 then (xb1 (f_X2_amountOf x4 uD) fun v4 => (f_X2_allOwedBy_5 fu uD n x1 (x2 + v4) (x4 + 1))) else (f_X2_allOwedBy_5 fu uD n x1 (x2 + 0) (x4 + 1))))
def f_X2_allOwedBy (fu : Nat) (x1 : Int32) (uD : sDeb) : Option Int64 :=
  f_X2_allOwedBy_5 fu uD fu x1 0 0
set_option maxHeartbeats 4000000 in
set_option maxRecDepth 100000 in
theorem l_X2_allOwedBy_5 {l : Launch} {κ : xKt} {wA : Nat → sAcc} {wa : Nat} {wY : sTxt × sRng × sMai × sRef × sOut} (ha : wa < 9) {fu : Nat} {uP : sPar} {uC : sCla} {uD : sDeb} {uJ : sJou} {ur : xF32} {ut : xF32} {ud : Int32} {ug : Int32} {A : Nat → Prop} {p : Program} {e : Env} {s : State} {m : MethodId} {args : Array Value} {below : List Frame} {meth : Method} {c : Code} {Q : State → Prop} {rr : Int64}
    (hc : xC κ A p s m args meth c cX2_allOwedBy RX2 5 (some .long))
    (K : ∀ (pc : Nat) (ls : Array Slot) (H : Heap) (locs : List Loc), decode cX2_allOwedBy pc = .ok (.lreturn, 1) → xW κ A s (upA wA wa (uP, uC, uD, uJ, ur, ut, ud, ug), wY) H locs → W p l e (xR 1 0 0) s m args below meth c H locs 0 0 Q (F0 m pc ls [.long rr])) :
    ∀ (n : Nat) (x1 : Int32) (x2 : Int64) (x4 : Int32) (H : Heap) (locs : List Loc) (ls : Array Slot), f_X2_allOwedBy_5 fu uD n x1 x2 x4 = some rr → xW κ A s (upA wA wa (uP, uC, uD, uJ, ur, ut, ud, ug), wY) H locs → lv_has ls 5 [(0, .ref (xAd κ (26 * wa + 15))), (1, .int x1), (2, .long x2), (4, .int x4)] → W p l e (xR 1 0 0) s m args below meth c H locs 0 0 Q (F0 m 5 ls []) := by
  have hx := hc.1.1
  have hb := hc.1.2.1
  intro n
  induction n with
  | zero =>
    intro x1 x2 x4 H locs ls hf
    rw [f_X2_allOwedBy_5] at hf
    cases hf
  | succ n hi =>
    intro x1 x2 x4 H locs ls hf hw hl
    rw [f_X2_allOwedBy_5] at hf
    refine lv_iload hx hb dX2_allOwedBy_5 (lv_at hl 3 rfl) ?_
    refine lv_aload_n hx hb dX2_allOwedBy_7 rfl (lv_at hl 0 rfl) ?_
    refine x_get (v := .int uD.1) hc hw (ca_15 ha) fX2_9 rfl dX2_allOwedBy_8 ?_
    refine lv_icmp_ge (tgt := 44) hx hb dX2_allOwedBy_11 (by decide) (fun c1 => ?_) (fun c1 => ?_)
    · have hf := xif_t c1 hf
      refine lv_lload_n hx hb dX2_allOwedBy_44 rfl (lv_at hl 2 rfl) ?_
      cases hf
      exact K _ _ _ _ dX2_allOwedBy_45 hw
    · have hf := xif_f c1 hf
      refine lv_lload_n hx hb dX2_allOwedBy_14 rfl (lv_at hl 2 rfl) ?_
      refine lv_aload_n hx hb dX2_allOwedBy_15 rfl (lv_at hl 0 rfl) ?_
      refine x_get (v := .ref (xAd κ (26 * wa + 16))) hc hw (ca_15 ha) fX2_15 rfl dX2_allOwedBy_16 ?_
      refine lv_iload hx hb dX2_allOwedBy_19 (lv_at hl 3 rfl) ?_
      obtain ⟨k2, hf⟩ := xk_of hf
      refine x_iald (n := 30) (f := uD.2.1) hc hw (ca_16 ha) k2 dX2_allOwedBy_21 ?_
      refine lv_iload_n hx hb dX2_allOwedBy_22 rfl (lv_at hl 1 rfl) ?_
      refine lv_icmp_ne (tgt := 35) hx hb dX2_allOwedBy_23 (by decide) (fun c3 => ?_) (fun c3 => ?_)
      · have hf := xif_f c3 hf
        refine lv_lconst (v := 0) hx hb dX2_allOwedBy_35 (by decide) ?_
        refine lv_ladd hx hb dX2_allOwedBy_36 ?_
        refine lv_lstore_n (lv' := [(2, .long (x2 + 0)), (0, .ref (xAd κ (26 * wa + 15))), (1, .int x1), (4, .int x4)]) hx hb dX2_allOwedBy_37 rfl hl (by decide) rfl (fun ls hl => ?_)
        refine lv_iinc (v := (x4 + 1)) (lv' := [(4, .int (x4 + 1)), (2, .long (x2 + 0)), (0, .ref (xAd κ (26 * wa + 15))), (1, .int x1)]) hx hb dX2_allOwedBy_38 hl (k := 3) rfl rfl (by decide) rfl (fun ls hl => ?_)
        refine lv_goto (tgt := 5) hx hb dX2_allOwedBy_41 (by decide) ?_
        exact hi _ _ _ _ _ _ hf hw (lv_sub hl [2, 3, 1, 0] rfl)
      · have hf := xif_t c3 hf
        refine lv_aload_n hx hb dX2_allOwedBy_26 rfl (lv_at hl 0 rfl) ?_
        refine lv_iload hx hb dX2_allOwedBy_27 (lv_at hl 3 rfl) ?_
        obtain ⟨v4, h5, hf⟩ := xb1_of hf
        refine x_calllV (As := [.int x4]) (rest := [.long x2]) (σ' := (upA wA wa (uP, uC, uD, uJ, ur, ut, ud, ug), wY)) hc hw hl.1 (m_X2_amountOf ha h5) kX2_42 (ca_15 ha) rfl rfl ⟨rfl, rfl⟩ ⟨Nat.le_of_ble_eq_true rfl, Nat.le_of_ble_eq_true rfl⟩ ⟨Nat.zero_le _, Nat.zero_le _⟩ (Nat.le_of_ble_eq_true rfl) dX2_allOwedBy_29 (fun H locs hw => ?_)
        refine lv_goto (tgt := 36) hx hb dX2_allOwedBy_32 (by decide) ?_
        refine lv_ladd hx hb dX2_allOwedBy_36 ?_
        refine lv_lstore_n (lv' := [(2, .long (x2 + v4)), (0, .ref (xAd κ (26 * wa + 15))), (1, .int x1), (4, .int x4)]) hx hb dX2_allOwedBy_37 rfl hl (by decide) rfl (fun ls hl => ?_)
        refine lv_iinc (v := (x4 + 1)) (lv' := [(4, .int (x4 + 1)), (2, .long (x2 + v4)), (0, .ref (xAd κ (26 * wa + 15))), (1, .int x1)]) hx hb dX2_allOwedBy_38 hl (k := 3) rfl rfl (by decide) rfl (fun ls hl => ?_)
        refine lv_goto (tgt := 5) hx hb dX2_allOwedBy_41 (by decide) ?_
        exact hi _ _ _ _ _ _ hf hw (lv_sub hl [2, 3, 1, 0] rfl)
set_option maxHeartbeats 4000000 in
set_option maxRecDepth 100000 in
theorem m_X2_allOwedBy {l : Launch} {κ : xKt} {wA : Nat → sAcc} {wa : Nat} {wY : sTxt × sRng × sMai × sRef × sOut} (ha : wa < 9) {fu : Nat} {x1 : Int32} {uP : sPar} {uC : sCla} {uD : sDeb} {uJ : sJou} {ur : xF32} {ut : xF32} {ud : Int32} {ug : Int32} {rr : Int64} (hf : f_X2_allOwedBy fu x1 uD = some rr) : xMl l κ yX2_allOwedBy cX2_allOwedBy 5 (some .long) (xR 1 0 0) [.ref (xAd κ (26 * wa + 15)), .int x1] (upA wA wa (uP, uC, uD, uJ, ur, ut, ud, ug), wY) (upA wA wa (uP, uC, uD, uJ, ur, ut, ud, ug), wY) rr := by
  unfold f_X2_allOwedBy at hf
  refine xMl_of pn_X2 (Nat.le_of_ble_eq_true rfl) ⟨rfl, rfl⟩ ?_
  intro A p e s m args below meth c ls Q hc hw hl K
  have hc : xC κ A p s m args meth c cX2_allOwedBy RX2 5 (some .long) := hc
  have hx := hc.1.1
  have hb := hc.1.2.1
  have hl : lv_has ls 5 [(0, .ref (xAd κ (26 * wa + 15))), (1, .int x1)] := hl
  refine lv_lconst (v := 0) hx hb dX2_allOwedBy_0 (by decide) ?_
  refine lv_lstore_n (lv' := [(2, .long 0), (0, .ref (xAd κ (26 * wa + 15))), (1, .int x1)]) hx hb dX2_allOwedBy_1 rfl hl (by decide) rfl (fun ls hl => ?_)
  refine lv_iconst (v := 0) hx hb dX2_allOwedBy_2 (by decide) ?_
  refine lv_istore (lv' := [(4, .int 0), (2, .long 0), (0, .ref (xAd κ (26 * wa + 15))), (1, .int x1)]) hx hb dX2_allOwedBy_3 hl (by decide) rfl (fun ls hl => ?_)
  exact l_X2_allOwedBy_5 ha hc K fu _ _ _ _ _ _ hf hw (lv_sub hl [2, 3, 1, 0] rfl)
def f_X2_allOwedTo_5 (fu : Nat) (uD : sDeb) : Nat → (Int32) → (Int64) → (Int32) → Option Int64
  | 0, _, _, _ => none
  | n + 1, x1, x2, x4 => if uD.1 ≤ x4 then (some x2) else (xk (xin x4 30) (if (uD.2.2.1 x4.toNatClampNeg) = x1 then (xb1 (f_X2_amountOf x4 uD) fun v4 => (f_X2_allOwedTo_5 fu uD n x1 (x2 + v4) (x4 + 1))) else (f_X2_allOwedTo_5 fu uD n x1 (x2 + 0) (x4 + 1))))
def f_X2_allOwedTo (fu : Nat) (x1 : Int32) (uD : sDeb) : Option Int64 :=
  f_X2_allOwedTo_5 fu uD fu x1 0 0
set_option maxHeartbeats 4000000 in
set_option maxRecDepth 100000 in
theorem l_X2_allOwedTo_5 {l : Launch} {κ : xKt} {wA : Nat → sAcc} {wa : Nat} {wY : sTxt × sRng × sMai × sRef × sOut} (ha : wa < 9) {fu : Nat} {uP : sPar} {uC : sCla} {uD : sDeb} {uJ : sJou} {ur : xF32} {ut : xF32} {ud : Int32} {ug : Int32} {A : Nat → Prop} {p : Program} {e : Env} {s : State} {m : MethodId} {args : Array Value} {below : List Frame} {meth : Method} {c : Code} {Q : State → Prop} {rr : Int64}
    (hc : xC κ A p s m args meth c cX2_allOwedTo RX2 5 (some .long))
    (K : ∀ (pc : Nat) (ls : Array Slot) (H : Heap) (locs : List Loc), decode cX2_allOwedTo pc = .ok (.lreturn, 1) → xW κ A s (upA wA wa (uP, uC, uD, uJ, ur, ut, ud, ug), wY) H locs → W p l e (xR 1 0 0) s m args below meth c H locs 0 0 Q (F0 m pc ls [.long rr])) :
    ∀ (n : Nat) (x1 : Int32) (x2 : Int64) (x4 : Int32) (H : Heap) (locs : List Loc) (ls : Array Slot), f_X2_allOwedTo_5 fu uD n x1 x2 x4 = some rr → xW κ A s (upA wA wa (uP, uC, uD, uJ, ur, ut, ud, ug), wY) H locs → lv_has ls 5 [(0, .ref (xAd κ (26 * wa + 15))), (1, .int x1), (2, .long x2), (4, .int x4)] → W p l e (xR 1 0 0) s m args below meth c H locs 0 0 Q (F0 m 5 ls []) := by
  have hx := hc.1.1
  have hb := hc.1.2.1
  intro n
  induction n with
  | zero =>
    intro x1 x2 x4 H locs ls hf
    rw [f_X2_allOwedTo_5] at hf
    cases hf
  | succ n hi =>
    intro x1 x2 x4 H locs ls hf hw hl
    rw [f_X2_allOwedTo_5] at hf
    refine lv_iload hx hb dX2_allOwedTo_5 (lv_at hl 3 rfl) ?_
    refine lv_aload_n hx hb dX2_allOwedTo_7 rfl (lv_at hl 0 rfl) ?_
    refine x_get (v := .int uD.1) hc hw (ca_15 ha) fX2_9 rfl dX2_allOwedTo_8 ?_
    refine lv_icmp_ge (tgt := 44) hx hb dX2_allOwedTo_11 (by decide) (fun c1 => ?_) (fun c1 => ?_)
    · have hf := xif_t c1 hf
      refine lv_lload_n hx hb dX2_allOwedTo_44 rfl (lv_at hl 2 rfl) ?_
      cases hf
      exact K _ _ _ _ dX2_allOwedTo_45 hw
    · have hf := xif_f c1 hf
      refine lv_lload_n hx hb dX2_allOwedTo_14 rfl (lv_at hl 2 rfl) ?_
      refine lv_aload_n hx hb dX2_allOwedTo_15 rfl (lv_at hl 0 rfl) ?_
      refine x_get (v := .ref (xAd κ (26 * wa + 17))) hc hw (ca_15 ha) fX2_19 rfl dX2_allOwedTo_16 ?_
      refine lv_iload hx hb dX2_allOwedTo_19 (lv_at hl 3 rfl) ?_
      obtain ⟨k2, hf⟩ := xk_of hf
      refine x_iald (n := 30) (f := uD.2.2.1) hc hw (ca_17 ha) k2 dX2_allOwedTo_21 ?_
      refine lv_iload_n hx hb dX2_allOwedTo_22 rfl (lv_at hl 1 rfl) ?_
      refine lv_icmp_ne (tgt := 35) hx hb dX2_allOwedTo_23 (by decide) (fun c3 => ?_) (fun c3 => ?_)
      · have hf := xif_f c3 hf
        refine lv_lconst (v := 0) hx hb dX2_allOwedTo_35 (by decide) ?_
        refine lv_ladd hx hb dX2_allOwedTo_36 ?_
        refine lv_lstore_n (lv' := [(2, .long (x2 + 0)), (0, .ref (xAd κ (26 * wa + 15))), (1, .int x1), (4, .int x4)]) hx hb dX2_allOwedTo_37 rfl hl (by decide) rfl (fun ls hl => ?_)
        refine lv_iinc (v := (x4 + 1)) (lv' := [(4, .int (x4 + 1)), (2, .long (x2 + 0)), (0, .ref (xAd κ (26 * wa + 15))), (1, .int x1)]) hx hb dX2_allOwedTo_38 hl (k := 3) rfl rfl (by decide) rfl (fun ls hl => ?_)
        refine lv_goto (tgt := 5) hx hb dX2_allOwedTo_41 (by decide) ?_
        exact hi _ _ _ _ _ _ hf hw (lv_sub hl [2, 3, 1, 0] rfl)
      · have hf := xif_t c3 hf
        refine lv_aload_n hx hb dX2_allOwedTo_26 rfl (lv_at hl 0 rfl) ?_
        refine lv_iload hx hb dX2_allOwedTo_27 (lv_at hl 3 rfl) ?_
        obtain ⟨v4, h5, hf⟩ := xb1_of hf
        refine x_calllV (As := [.int x4]) (rest := [.long x2]) (σ' := (upA wA wa (uP, uC, uD, uJ, ur, ut, ud, ug), wY)) hc hw hl.1 (m_X2_amountOf ha h5) kX2_42 (ca_15 ha) rfl rfl ⟨rfl, rfl⟩ ⟨Nat.le_of_ble_eq_true rfl, Nat.le_of_ble_eq_true rfl⟩ ⟨Nat.zero_le _, Nat.zero_le _⟩ (Nat.le_of_ble_eq_true rfl) dX2_allOwedTo_29 (fun H locs hw => ?_)
        refine lv_goto (tgt := 36) hx hb dX2_allOwedTo_32 (by decide) ?_
        refine lv_ladd hx hb dX2_allOwedTo_36 ?_
        refine lv_lstore_n (lv' := [(2, .long (x2 + v4)), (0, .ref (xAd κ (26 * wa + 15))), (1, .int x1), (4, .int x4)]) hx hb dX2_allOwedTo_37 rfl hl (by decide) rfl (fun ls hl => ?_)
        refine lv_iinc (v := (x4 + 1)) (lv' := [(4, .int (x4 + 1)), (2, .long (x2 + v4)), (0, .ref (xAd κ (26 * wa + 15))), (1, .int x1)]) hx hb dX2_allOwedTo_38 hl (k := 3) rfl rfl (by decide) rfl (fun ls hl => ?_)
        refine lv_goto (tgt := 5) hx hb dX2_allOwedTo_41 (by decide) ?_
        exact hi _ _ _ _ _ _ hf hw (lv_sub hl [2, 3, 1, 0] rfl)
set_option maxHeartbeats 4000000 in
set_option maxRecDepth 100000 in
theorem m_X2_allOwedTo {l : Launch} {κ : xKt} {wA : Nat → sAcc} {wa : Nat} {wY : sTxt × sRng × sMai × sRef × sOut} (ha : wa < 9) {fu : Nat} {x1 : Int32} {uP : sPar} {uC : sCla} {uD : sDeb} {uJ : sJou} {ur : xF32} {ut : xF32} {ud : Int32} {ug : Int32} {rr : Int64} (hf : f_X2_allOwedTo fu x1 uD = some rr) : xMl l κ yX2_allOwedTo cX2_allOwedTo 5 (some .long) (xR 1 0 0) [.ref (xAd κ (26 * wa + 15)), .int x1] (upA wA wa (uP, uC, uD, uJ, ur, ut, ud, ug), wY) (upA wA wa (uP, uC, uD, uJ, ur, ut, ud, ug), wY) rr := by
  unfold f_X2_allOwedTo at hf
  refine xMl_of pn_X2 (Nat.le_of_ble_eq_true rfl) ⟨rfl, rfl⟩ ?_
  intro A p e s m args below meth c ls Q hc hw hl K
  have hc : xC κ A p s m args meth c cX2_allOwedTo RX2 5 (some .long) := hc
  have hx := hc.1.1
  have hb := hc.1.2.1
  have hl : lv_has ls 5 [(0, .ref (xAd κ (26 * wa + 15))), (1, .int x1)] := hl
  refine lv_lconst (v := 0) hx hb dX2_allOwedTo_0 (by decide) ?_
  refine lv_lstore_n (lv' := [(2, .long 0), (0, .ref (xAd κ (26 * wa + 15))), (1, .int x1)]) hx hb dX2_allOwedTo_1 rfl hl (by decide) rfl (fun ls hl => ?_)
  refine lv_iconst (v := 0) hx hb dX2_allOwedTo_2 (by decide) ?_
  refine lv_istore (lv' := [(4, .int 0), (2, .long 0), (0, .ref (xAd κ (26 * wa + 15))), (1, .int x1)]) hx hb dX2_allOwedTo_3 hl (by decide) rfl (fun ls hl => ?_)
  exact l_X2_allOwedTo_5 ha hc K fu _ _ _ _ _ _ hf hw (lv_sub hl [2, 3, 1, 0] rfl)
def f_X4_numberOf (x1 : Int32) (x2 : Int32) (uP : sPar) : Option Int64 :=
  if x2 = 0 then (xk (xin x1 6) (some ((uP.2.1 x1.toNatClampNeg).toInt64))) else (if x2 = 1 then (xk (xin x1 6) (some ((uP.2.2.1 x1.toNatClampNeg).toInt64))) else (if x2 = 2 then (xk (xin x1 6) (some ((uP.2.2.2.1 x1.toNatClampNeg)))) else (if x2 = 3 then (xk (xin x1 6) (some ((uP.2.2.2.2.1 x1.toNatClampNeg)))) else (if x2 = 4 then (xk (xin x1 6) (some ((uP.2.2.2.2.2.1 x1.toNatClampNeg)))) else (if x2 = 5 then (xk (xin x1 6) (some ((uP.2.2.2.2.2.2 x1.toNatClampNeg)))) else (if x2 = 6 then (xb1 (f_X4_heldFor x1 uP) fun v14 => (some v14)) else (xb1 (f_X4_shortOf x1 uP) fun v16 => (some v16))))))))
set_option maxHeartbeats 4000000 in
set_option maxRecDepth 100000 in
theorem m_X4_numberOf {l : Launch} {κ : xKt} {wA : Nat → sAcc} {wa : Nat} {wY : sTxt × sRng × sMai × sRef × sOut} (ha : wa < 9)  {x1 : Int32} {x2 : Int32} {uP : sPar} {uC : sCla} {uD : sDeb} {uJ : sJou} {ur : xF32} {ut : xF32} {ud : Int32} {ug : Int32} {rr : Int64} (hf : f_X4_numberOf x1 x2 uP = some rr) : xMl l κ yX4_numberOf cX4_numberOf 3 (some .long) (xR 1 0 0) [.ref (xAd κ (26 * wa + 1)), .int x1, .int x2] (upA wA wa (uP, uC, uD, uJ, ur, ut, ud, ug), wY) (upA wA wa (uP, uC, uD, uJ, ur, ut, ud, ug), wY) rr := by
  unfold f_X4_numberOf at hf
  refine xMl_of pn_X4 (Nat.le_of_ble_eq_true rfl) ⟨rfl, rfl⟩ ?_
  intro A p e s m args below meth c ls Q hc hw hl K
  have hc : xC κ A p s m args meth c cX4_numberOf RX4 3 (some .long) := hc
  have hx := hc.1.1
  have hb := hc.1.2.1
  have hl : lv_has ls 3 [(0, .ref (xAd κ (26 * wa + 1))), (1, .int x1), (2, .int x2)] := hl
  refine lv_iload_n hx hb dX4_numberOf_0 rfl (lv_at hl 2 rfl) ?_
  by_cases c1 : x2 = 0
  · have hf := xif_t c1 hf
    refine x_tabI (k := 0) (off := 43) (tgt := 44) hx hb dX4_numberOf_1 c1 (by decide) (by decide) (by decide) ?_
    refine lv_aload_n hx hb dX4_numberOf_44 rfl (lv_at hl 0 rfl) ?_
    refine x_get (v := .ref (xAd κ (26 * wa + 2))) hc hw (ca_1 ha) fX4_15 rfl dX4_numberOf_45 ?_
    refine lv_iload_n hx hb dX4_numberOf_48 rfl (lv_at hl 1 rfl) ?_
    obtain ⟨k2, hf⟩ := xk_of hf
    refine x_iald (n := 6) (f := uP.2.1) hc hw (ca_2 ha) k2 dX4_numberOf_49 ?_
    refine lv_i2l (v := (uP.2.1 x1.toNatClampNeg).toInt64) hx hb dX4_numberOf_50 rfl ?_
    cases hf
    exact K _ _ _ _ dX4_numberOf_51 hw
  have hf := xif_f c1 hf
  by_cases c3 : x2 = 1
  · have hf := xif_t c3 hf
    refine x_tabI (k := 1) (off := 51) (tgt := 52) hx hb dX4_numberOf_1 c3 (by decide) (by decide) (by decide) ?_
    refine lv_aload_n hx hb dX4_numberOf_52 rfl (lv_at hl 0 rfl) ?_
    refine x_get (v := .ref (xAd κ (26 * wa + 3))) hc hw (ca_1 ha) fX4_19 rfl dX4_numberOf_53 ?_
    refine lv_iload_n hx hb dX4_numberOf_56 rfl (lv_at hl 1 rfl) ?_
    obtain ⟨k4, hf⟩ := xk_of hf
    refine x_iald (n := 6) (f := uP.2.2.1) hc hw (ca_3 ha) k4 dX4_numberOf_57 ?_
    refine lv_i2l (v := (uP.2.2.1 x1.toNatClampNeg).toInt64) hx hb dX4_numberOf_58 rfl ?_
    cases hf
    exact K _ _ _ _ dX4_numberOf_59 hw
  have hf := xif_f c3 hf
  by_cases c5 : x2 = 2
  · have hf := xif_t c5 hf
    refine x_tabI (k := 2) (off := 59) (tgt := 60) hx hb dX4_numberOf_1 c5 (by decide) (by decide) (by decide) ?_
    refine lv_aload_n hx hb dX4_numberOf_60 rfl (lv_at hl 0 rfl) ?_
    refine x_get (v := .ref (xAd κ (26 * wa + 4))) hc hw (ca_1 ha) fX4_22 rfl dX4_numberOf_61 ?_
    refine lv_iload_n hx hb dX4_numberOf_64 rfl (lv_at hl 1 rfl) ?_
    obtain ⟨k6, hf⟩ := xk_of hf
    refine x_lald (n := 6) (f := uP.2.2.2.1) hc hw (ca_4 ha) k6 dX4_numberOf_65 ?_
    cases hf
    exact K _ _ _ _ dX4_numberOf_66 hw
  have hf := xif_f c5 hf
  by_cases c7 : x2 = 3
  · have hf := xif_t c7 hf
    refine x_tabI (k := 3) (off := 66) (tgt := 67) hx hb dX4_numberOf_1 c7 (by decide) (by decide) (by decide) ?_
    refine lv_aload_n hx hb dX4_numberOf_67 rfl (lv_at hl 0 rfl) ?_
    refine x_get (v := .ref (xAd κ (26 * wa + 5))) hc hw (ca_1 ha) fX4_26 rfl dX4_numberOf_68 ?_
    refine lv_iload_n hx hb dX4_numberOf_71 rfl (lv_at hl 1 rfl) ?_
    obtain ⟨k8, hf⟩ := xk_of hf
    refine x_lald (n := 6) (f := uP.2.2.2.2.1) hc hw (ca_5 ha) k8 dX4_numberOf_72 ?_
    cases hf
    exact K _ _ _ _ dX4_numberOf_73 hw
  have hf := xif_f c7 hf
  by_cases c9 : x2 = 4
  · have hf := xif_t c9 hf
    refine x_tabI (k := 4) (off := 73) (tgt := 74) hx hb dX4_numberOf_1 c9 (by decide) (by decide) (by decide) ?_
    refine lv_aload_n hx hb dX4_numberOf_74 rfl (lv_at hl 0 rfl) ?_
    refine x_get (v := .ref (xAd κ (26 * wa + 6))) hc hw (ca_1 ha) fX4_29 rfl dX4_numberOf_75 ?_
    refine lv_iload_n hx hb dX4_numberOf_78 rfl (lv_at hl 1 rfl) ?_
    obtain ⟨k10, hf⟩ := xk_of hf
    refine x_lald (n := 6) (f := uP.2.2.2.2.2.1) hc hw (ca_6 ha) k10 dX4_numberOf_79 ?_
    cases hf
    exact K _ _ _ _ dX4_numberOf_80 hw
  have hf := xif_f c9 hf
  by_cases c11 : x2 = 5
  · have hf := xif_t c11 hf
    refine x_tabI (k := 5) (off := 80) (tgt := 81) hx hb dX4_numberOf_1 c11 (by decide) (by decide) (by decide) ?_
    refine lv_aload_n hx hb dX4_numberOf_81 rfl (lv_at hl 0 rfl) ?_
    refine x_get (v := .ref (xAd κ (26 * wa + 7))) hc hw (ca_1 ha) fX4_32 rfl dX4_numberOf_82 ?_
    refine lv_iload_n hx hb dX4_numberOf_85 rfl (lv_at hl 1 rfl) ?_
    obtain ⟨k12, hf⟩ := xk_of hf
    refine x_lald (n := 6) (f := uP.2.2.2.2.2.2) hc hw (ca_7 ha) k12 dX4_numberOf_86 ?_
    cases hf
    exact K _ _ _ _ dX4_numberOf_87 hw
  have hf := xif_f c11 hf
  by_cases c13 : x2 = 6
  · have hf := xif_t c13 hf
    refine x_tabI (k := 6) (off := 87) (tgt := 88) hx hb dX4_numberOf_1 c13 (by decide) (by decide) (by decide) ?_
    refine lv_aload_n hx hb dX4_numberOf_88 rfl (lv_at hl 0 rfl) ?_
    refine lv_iload_n hx hb dX4_numberOf_89 rfl (lv_at hl 1 rfl) ?_
    obtain ⟨v14, h15, hf⟩ := xb1_of hf
    refine x_calllV (As := [.int x1]) (rest := []) (σ' := (upA wA wa (uP, uC, uD, uJ, ur, ut, ud, ug), wY)) hc hw hl.1 (m_X4_heldFor ha h15) kX4_55 (ca_1 ha) rfl rfl ⟨rfl, rfl⟩ ⟨Nat.le_of_ble_eq_true rfl, Nat.le_of_ble_eq_true rfl⟩ ⟨Nat.zero_le _, Nat.zero_le _⟩ (Nat.le_of_ble_eq_true rfl) dX4_numberOf_90 (fun H locs hw => ?_)
    cases hf
    exact K _ _ _ _ dX4_numberOf_93 hw
  have hf := xif_f c13 hf
  have c1 := x_neT (z := 0) c1 (by decide)
  have c3 := x_neT (z := 1) c3 (by decide)
  have c5 := x_neT (z := 2) c5 (by decide)
  have c7 := x_neT (z := 3) c7 (by decide)
  have c9 := x_neT (z := 4) c9 (by decide)
  have c11 := x_neT (z := 5) c11 (by decide)
  have c13 := x_neT (z := 6) c13 (by decide)
  refine x_tabD (tgt := 94) hx hb dX4_numberOf_1 (by omega) (by decide) ?_
  refine lv_aload_n hx hb dX4_numberOf_94 rfl (lv_at hl 0 rfl) ?_
  refine lv_iload_n hx hb dX4_numberOf_95 rfl (lv_at hl 1 rfl) ?_
  obtain ⟨v16, h17, hf⟩ := xb1_of hf
  refine x_calllV (As := [.int x1]) (rest := []) (σ' := (upA wA wa (uP, uC, uD, uJ, ur, ut, ud, ug), wY)) hc hw hl.1 (m_X4_shortOf ha h17) kX4_59 (ca_1 ha) rfl rfl ⟨rfl, rfl⟩ ⟨Nat.le_of_ble_eq_true rfl, Nat.le_of_ble_eq_true rfl⟩ ⟨Nat.zero_le _, Nat.zero_le _⟩ (Nat.le_of_ble_eq_true rfl) dX4_numberOf_96 (fun H locs hw => ?_)
  cases hf
  exact K _ _ _ _ dX4_numberOf_99 hw
def f_X4_countOn_4 (fu : Nat) (uP : sPar) : Nat → (Int32) → (Int32) → (Int32) → Option Int32
  | 0, _, _, _ => none
  | n + 1, x1, x2, x3 => if uP.1 ≤ x3 then (some x2) else (xk (xin x3 6) (if (uP.2.1 x3.toNatClampNeg) = x1 then (f_X4_countOn_4 fu uP n x1 (x2 + 1) (x3 + 1)) else (f_X4_countOn_4 fu uP n x1 (x2 + 0) (x3 + 1))))
def f_X4_countOn (fu : Nat) (x1 : Int32) (uP : sPar) : Option Int32 :=
  f_X4_countOn_4 fu uP fu x1 0 0
set_option maxHeartbeats 4000000 in
set_option maxRecDepth 100000 in
theorem l_X4_countOn_4 {l : Launch} {κ : xKt} {wA : Nat → sAcc} {wa : Nat} {wY : sTxt × sRng × sMai × sRef × sOut} (ha : wa < 9) {fu : Nat} {uP : sPar} {uC : sCla} {uD : sDeb} {uJ : sJou} {ur : xF32} {ut : xF32} {ud : Int32} {ug : Int32} {A : Nat → Prop} {p : Program} {e : Env} {s : State} {m : MethodId} {args : Array Value} {below : List Frame} {meth : Method} {c : Code} {Q : State → Prop} {rr : Int32}
    (hc : xC κ A p s m args meth c cX4_countOn RX4 4 (some .int))
    (K : ∀ (pc : Nat) (ls : Array Slot) (H : Heap) (locs : List Loc), decode cX4_countOn pc = .ok (.ireturn, 1) → narrow .int (.int rr) = .int rr → xW κ A s (upA wA wa (uP, uC, uD, uJ, ur, ut, ud, ug), wY) H locs → W p l e (xR 0 0 0) s m args below meth c H locs 0 0 Q (F0 m pc ls [.int rr])) :
    ∀ (n : Nat) (x1 : Int32) (x2 : Int32) (x3 : Int32) (H : Heap) (locs : List Loc) (ls : Array Slot), f_X4_countOn_4 fu uP n x1 x2 x3 = some rr → xW κ A s (upA wA wa (uP, uC, uD, uJ, ur, ut, ud, ug), wY) H locs → lv_has ls 4 [(0, .ref (xAd κ (26 * wa + 1))), (1, .int x1), (2, .int x2), (3, .int x3)] → W p l e (xR 0 0 0) s m args below meth c H locs 0 0 Q (F0 m 4 ls []) := by
  have hx := hc.1.1
  have hb := hc.1.2.1
  intro n
  induction n with
  | zero =>
    intro x1 x2 x3 H locs ls hf
    rw [f_X4_countOn_4] at hf
    cases hf
  | succ n hi =>
    intro x1 x2 x3 H locs ls hf hw hl
    rw [f_X4_countOn_4] at hf
    refine lv_iload_n hx hb dX4_countOn_4 rfl (lv_at hl 3 rfl) ?_
    refine lv_aload_n hx hb dX4_countOn_5 rfl (lv_at hl 0 rfl) ?_
    refine x_get (v := .int uP.1) hc hw (ca_1 ha) fX4_9 rfl dX4_countOn_6 ?_
    refine lv_icmp_ge (tgt := 36) hx hb dX4_countOn_9 (by decide) (fun c1 => ?_) (fun c1 => ?_)
    · have hf := xif_t c1 hf
      refine lv_iload_n hx hb dX4_countOn_36 rfl (lv_at hl 2 rfl) ?_
      cases hf
      exact K _ _ _ _ dX4_countOn_37 rfl hw
    · have hf := xif_f c1 hf
      refine lv_iload_n hx hb dX4_countOn_12 rfl (lv_at hl 2 rfl) ?_
      refine lv_aload_n hx hb dX4_countOn_13 rfl (lv_at hl 0 rfl) ?_
      refine x_get (v := .ref (xAd κ (26 * wa + 2))) hc hw (ca_1 ha) fX4_15 rfl dX4_countOn_14 ?_
      refine lv_iload_n hx hb dX4_countOn_17 rfl (lv_at hl 3 rfl) ?_
      obtain ⟨k2, hf⟩ := xk_of hf
      refine x_iald (n := 6) (f := uP.2.1) hc hw (ca_2 ha) k2 dX4_countOn_18 ?_
      refine lv_iload_n hx hb dX4_countOn_19 rfl (lv_at hl 1 rfl) ?_
      refine lv_icmp_ne (tgt := 27) hx hb dX4_countOn_20 (by decide) (fun c3 => ?_) (fun c3 => ?_)
      · have hf := xif_f c3 hf
        refine lv_iconst (v := 0) hx hb dX4_countOn_27 (by decide) ?_
        refine lv_iadd hx hb dX4_countOn_28 ?_
        refine lv_istore_n (lv' := [(2, .int (x2 + 0)), (0, .ref (xAd κ (26 * wa + 1))), (1, .int x1), (3, .int x3)]) hx hb dX4_countOn_29 rfl hl (by decide) rfl (fun ls hl => ?_)
        refine lv_iinc (v := (x3 + 1)) (lv' := [(3, .int (x3 + 1)), (2, .int (x2 + 0)), (0, .ref (xAd κ (26 * wa + 1))), (1, .int x1)]) hx hb dX4_countOn_30 hl (k := 3) rfl rfl (by decide) rfl (fun ls hl => ?_)
        refine lv_goto (tgt := 4) hx hb dX4_countOn_33 (by decide) ?_
        exact hi _ _ _ _ _ _ hf hw (lv_sub hl [2, 3, 1, 0] rfl)
      · have hf := xif_t c3 hf
        refine lv_iconst (v := 1) hx hb dX4_countOn_23 (by decide) ?_
        refine lv_goto (tgt := 28) hx hb dX4_countOn_24 (by decide) ?_
        refine lv_iadd hx hb dX4_countOn_28 ?_
        refine lv_istore_n (lv' := [(2, .int (x2 + 1)), (0, .ref (xAd κ (26 * wa + 1))), (1, .int x1), (3, .int x3)]) hx hb dX4_countOn_29 rfl hl (by decide) rfl (fun ls hl => ?_)
        refine lv_iinc (v := (x3 + 1)) (lv' := [(3, .int (x3 + 1)), (2, .int (x2 + 1)), (0, .ref (xAd κ (26 * wa + 1))), (1, .int x1)]) hx hb dX4_countOn_30 hl (k := 3) rfl rfl (by decide) rfl (fun ls hl => ?_)
        refine lv_goto (tgt := 4) hx hb dX4_countOn_33 (by decide) ?_
        exact hi _ _ _ _ _ _ hf hw (lv_sub hl [2, 3, 1, 0] rfl)
set_option maxHeartbeats 4000000 in
set_option maxRecDepth 100000 in
theorem m_X4_countOn {l : Launch} {κ : xKt} {wA : Nat → sAcc} {wa : Nat} {wY : sTxt × sRng × sMai × sRef × sOut} (ha : wa < 9) {fu : Nat} {x1 : Int32} {uP : sPar} {uC : sCla} {uD : sDeb} {uJ : sJou} {ur : xF32} {ut : xF32} {ud : Int32} {ug : Int32} {rr : Int32} (hf : f_X4_countOn fu x1 uP = some rr) : xMi l κ yX4_countOn cX4_countOn 4 (some .int) (xR 0 0 0) [.ref (xAd κ (26 * wa + 1)), .int x1] (upA wA wa (uP, uC, uD, uJ, ur, ut, ud, ug), wY) (upA wA wa (uP, uC, uD, uJ, ur, ut, ud, ug), wY) rr := by
  unfold f_X4_countOn at hf
  refine xMi_of pn_X4 (Nat.le_of_ble_eq_true rfl) ⟨rfl, rfl⟩ ?_
  intro A p e s m args below meth c ls Q hc hw hl K
  have hc : xC κ A p s m args meth c cX4_countOn RX4 4 (some .int) := hc
  have hx := hc.1.1
  have hb := hc.1.2.1
  have hl : lv_has ls 4 [(0, .ref (xAd κ (26 * wa + 1))), (1, .int x1)] := hl
  refine lv_iconst (v := 0) hx hb dX4_countOn_0 (by decide) ?_
  refine lv_istore_n (lv' := [(2, .int 0), (0, .ref (xAd κ (26 * wa + 1))), (1, .int x1)]) hx hb dX4_countOn_1 rfl hl (by decide) rfl (fun ls hl => ?_)
  refine lv_iconst (v := 0) hx hb dX4_countOn_2 (by decide) ?_
  refine lv_istore_n (lv' := [(3, .int 0), (2, .int 0), (0, .ref (xAd κ (26 * wa + 1))), (1, .int x1)]) hx hb dX4_countOn_3 rfl hl (by decide) rfl (fun ls hl => ?_)
  exact l_X4_countOn_4 ha hc K fu _ _ _ _ _ _ hf hw (lv_sub hl [2, 3, 1, 0] rfl)
def f_X2_allOwed_4 (fu : Nat) (uD : sDeb) : Nat → (Int64) → (Int32) → Option Int64
  | 0, _, _ => none
  | n + 1, x1, x3 => if uD.1 ≤ x3 then (some x1) else (xb1 (f_X2_amountOf x3 uD) fun v2 => (f_X2_allOwed_4 fu uD n (x1 + v2) (x3 + 1)))
def f_X2_allOwed (fu : Nat) (uD : sDeb) : Option Int64 :=
  f_X2_allOwed_4 fu uD fu 0 0
set_option maxHeartbeats 4000000 in
set_option maxRecDepth 100000 in
theorem l_X2_allOwed_4 {l : Launch} {κ : xKt} {wA : Nat → sAcc} {wa : Nat} {wY : sTxt × sRng × sMai × sRef × sOut} (ha : wa < 9) {fu : Nat} {uP : sPar} {uC : sCla} {uD : sDeb} {uJ : sJou} {ur : xF32} {ut : xF32} {ud : Int32} {ug : Int32} {A : Nat → Prop} {p : Program} {e : Env} {s : State} {m : MethodId} {args : Array Value} {below : List Frame} {meth : Method} {c : Code} {Q : State → Prop} {rr : Int64}
    (hc : xC κ A p s m args meth c cX2_allOwed RX2 4 (some .long))
    (K : ∀ (pc : Nat) (ls : Array Slot) (H : Heap) (locs : List Loc), decode cX2_allOwed pc = .ok (.lreturn, 1) → xW κ A s (upA wA wa (uP, uC, uD, uJ, ur, ut, ud, ug), wY) H locs → W p l e (xR 1 0 0) s m args below meth c H locs 0 0 Q (F0 m pc ls [.long rr])) :
    ∀ (n : Nat) (x1 : Int64) (x3 : Int32) (H : Heap) (locs : List Loc) (ls : Array Slot), f_X2_allOwed_4 fu uD n x1 x3 = some rr → xW κ A s (upA wA wa (uP, uC, uD, uJ, ur, ut, ud, ug), wY) H locs → lv_has ls 4 [(0, .ref (xAd κ (26 * wa + 15))), (1, .long x1), (3, .int x3)] → W p l e (xR 1 0 0) s m args below meth c H locs 0 0 Q (F0 m 4 ls []) := by
  have hx := hc.1.1
  have hb := hc.1.2.1
  intro n
  induction n with
  | zero =>
    intro x1 x3 H locs ls hf
    rw [f_X2_allOwed_4] at hf
    cases hf
  | succ n hi =>
    intro x1 x3 H locs ls hf hw hl
    rw [f_X2_allOwed_4] at hf
    refine lv_iload_n hx hb dX2_allOwed_4 rfl (lv_at hl 2 rfl) ?_
    refine lv_aload_n hx hb dX2_allOwed_5 rfl (lv_at hl 0 rfl) ?_
    refine x_get (v := .int uD.1) hc hw (ca_15 ha) fX2_9 rfl dX2_allOwed_6 ?_
    refine lv_icmp_ge (tgt := 26) hx hb dX2_allOwed_9 (by decide) (fun c1 => ?_) (fun c1 => ?_)
    · have hf := xif_t c1 hf
      refine lv_lload_n hx hb dX2_allOwed_26 rfl (lv_at hl 1 rfl) ?_
      cases hf
      exact K _ _ _ _ dX2_allOwed_27 hw
    · have hf := xif_f c1 hf
      refine lv_lload_n hx hb dX2_allOwed_12 rfl (lv_at hl 1 rfl) ?_
      refine lv_aload_n hx hb dX2_allOwed_13 rfl (lv_at hl 0 rfl) ?_
      refine lv_iload_n hx hb dX2_allOwed_14 rfl (lv_at hl 2 rfl) ?_
      obtain ⟨v2, h3, hf⟩ := xb1_of hf
      refine x_calllV (As := [.int x3]) (rest := [.long x1]) (σ' := (upA wA wa (uP, uC, uD, uJ, ur, ut, ud, ug), wY)) hc hw hl.1 (m_X2_amountOf ha h3) kX2_42 (ca_15 ha) rfl rfl ⟨rfl, rfl⟩ ⟨Nat.le_of_ble_eq_true rfl, Nat.le_of_ble_eq_true rfl⟩ ⟨Nat.zero_le _, Nat.zero_le _⟩ (Nat.le_of_ble_eq_true rfl) dX2_allOwed_15 (fun H locs hw => ?_)
      refine lv_ladd hx hb dX2_allOwed_18 ?_
      refine lv_lstore_n (lv' := [(1, .long (x1 + v2)), (0, .ref (xAd κ (26 * wa + 15))), (3, .int x3)]) hx hb dX2_allOwed_19 rfl hl (by decide) rfl (fun ls hl => ?_)
      refine lv_iinc (v := (x3 + 1)) (lv' := [(3, .int (x3 + 1)), (1, .long (x1 + v2)), (0, .ref (xAd κ (26 * wa + 15)))]) hx hb dX2_allOwed_20 hl (k := 2) rfl rfl (by decide) rfl (fun ls hl => ?_)
      refine lv_goto (tgt := 4) hx hb dX2_allOwed_23 (by decide) ?_
      exact hi _ _ _ _ _ hf hw (lv_sub hl [2, 1, 0] rfl)
set_option maxHeartbeats 4000000 in
set_option maxRecDepth 100000 in
theorem m_X2_allOwed {l : Launch} {κ : xKt} {wA : Nat → sAcc} {wa : Nat} {wY : sTxt × sRng × sMai × sRef × sOut} (ha : wa < 9) {fu : Nat} {uP : sPar} {uC : sCla} {uD : sDeb} {uJ : sJou} {ur : xF32} {ut : xF32} {ud : Int32} {ug : Int32} {rr : Int64} (hf : f_X2_allOwed fu uD = some rr) : xMl l κ yX2_allOwed cX2_allOwed 4 (some .long) (xR 1 0 0) [.ref (xAd κ (26 * wa + 15))] (upA wA wa (uP, uC, uD, uJ, ur, ut, ud, ug), wY) (upA wA wa (uP, uC, uD, uJ, ur, ut, ud, ug), wY) rr := by
  unfold f_X2_allOwed at hf
  refine xMl_of pn_X2 (Nat.le_of_ble_eq_true rfl) ⟨rfl, rfl⟩ ?_
  intro A p e s m args below meth c ls Q hc hw hl K
  have hc : xC κ A p s m args meth c cX2_allOwed RX2 4 (some .long) := hc
  have hx := hc.1.1
  have hb := hc.1.2.1
  have hl : lv_has ls 4 [(0, .ref (xAd κ (26 * wa + 15)))] := hl
  refine lv_lconst (v := 0) hx hb dX2_allOwed_0 (by decide) ?_
  refine lv_lstore_n (lv' := [(1, .long 0), (0, .ref (xAd κ (26 * wa + 15)))]) hx hb dX2_allOwed_1 rfl hl (by decide) rfl (fun ls hl => ?_)
  refine lv_iconst (v := 0) hx hb dX2_allOwed_2 (by decide) ?_
  refine lv_istore_n (lv' := [(3, .int 0), (1, .long 0), (0, .ref (xAd κ (26 * wa + 15)))]) hx hb dX2_allOwed_3 rfl hl (by decide) rfl (fun ls hl => ?_)
  exact l_X2_allOwed_4 ha hc K fu _ _ _ _ _ hf hw (lv_sub hl [2, 1, 0] rfl)
def f_X4_totalOf_5 (fu : Nat) (uP : sPar) : Nat → (Int32) → (Int64) → (Int32) → Option Int64
  | 0, _, _, _ => none
  | n + 1, x1, x2, x4 => if uP.1 ≤ x4 then (some x2) else (xb1 (f_X4_numberOf x4 x1 uP) fun v2 => (f_X4_totalOf_5 fu uP n x1 (x2 + v2) (x4 + 1)))
def f_X4_totalOf (fu : Nat) (x1 : Int32) (uP : sPar) : Option Int64 :=
  f_X4_totalOf_5 fu uP fu x1 0 0
set_option maxHeartbeats 4000000 in
set_option maxRecDepth 100000 in
theorem l_X4_totalOf_5 {l : Launch} {κ : xKt} {wA : Nat → sAcc} {wa : Nat} {wY : sTxt × sRng × sMai × sRef × sOut} (ha : wa < 9) {fu : Nat} {uP : sPar} {uC : sCla} {uD : sDeb} {uJ : sJou} {ur : xF32} {ut : xF32} {ud : Int32} {ug : Int32} {A : Nat → Prop} {p : Program} {e : Env} {s : State} {m : MethodId} {args : Array Value} {below : List Frame} {meth : Method} {c : Code} {Q : State → Prop} {rr : Int64}
    (hc : xC κ A p s m args meth c cX4_totalOf RX4 5 (some .long))
    (K : ∀ (pc : Nat) (ls : Array Slot) (H : Heap) (locs : List Loc), decode cX4_totalOf pc = .ok (.lreturn, 1) → xW κ A s (upA wA wa (uP, uC, uD, uJ, ur, ut, ud, ug), wY) H locs → W p l e (xR 2 0 0) s m args below meth c H locs 0 0 Q (F0 m pc ls [.long rr])) :
    ∀ (n : Nat) (x1 : Int32) (x2 : Int64) (x4 : Int32) (H : Heap) (locs : List Loc) (ls : Array Slot), f_X4_totalOf_5 fu uP n x1 x2 x4 = some rr → xW κ A s (upA wA wa (uP, uC, uD, uJ, ur, ut, ud, ug), wY) H locs → lv_has ls 5 [(0, .ref (xAd κ (26 * wa + 1))), (1, .int x1), (2, .long x2), (4, .int x4)] → W p l e (xR 2 0 0) s m args below meth c H locs 0 0 Q (F0 m 5 ls []) := by
  have hx := hc.1.1
  have hb := hc.1.2.1
  intro n
  induction n with
  | zero =>
    intro x1 x2 x4 H locs ls hf
    rw [f_X4_totalOf_5] at hf
    cases hf
  | succ n hi =>
    intro x1 x2 x4 H locs ls hf hw hl
    rw [f_X4_totalOf_5] at hf
    refine lv_iload hx hb dX4_totalOf_5 (lv_at hl 3 rfl) ?_
    refine lv_aload_n hx hb dX4_totalOf_7 rfl (lv_at hl 0 rfl) ?_
    refine x_get (v := .int uP.1) hc hw (ca_1 ha) fX4_9 rfl dX4_totalOf_8 ?_
    refine lv_icmp_ge (tgt := 30) hx hb dX4_totalOf_11 (by decide) (fun c1 => ?_) (fun c1 => ?_)
    · have hf := xif_t c1 hf
      refine lv_lload_n hx hb dX4_totalOf_30 rfl (lv_at hl 2 rfl) ?_
      cases hf
      exact K _ _ _ _ dX4_totalOf_31 hw
    · have hf := xif_f c1 hf
      refine lv_lload_n hx hb dX4_totalOf_14 rfl (lv_at hl 2 rfl) ?_
      refine lv_aload_n hx hb dX4_totalOf_15 rfl (lv_at hl 0 rfl) ?_
      refine lv_iload hx hb dX4_totalOf_16 (lv_at hl 3 rfl) ?_
      refine lv_iload_n hx hb dX4_totalOf_18 rfl (lv_at hl 1 rfl) ?_
      obtain ⟨v2, h3, hf⟩ := xb1_of hf
      refine x_calllV (As := [.int x4, .int x1]) (rest := [.long x2]) (σ' := (upA wA wa (uP, uC, uD, uJ, ur, ut, ud, ug), wY)) hc hw hl.1 (m_X4_numberOf ha h3) kX4_62 (ca_1 ha) rfl rfl ⟨rfl, rfl⟩ ⟨Nat.le_of_ble_eq_true rfl, Nat.le_of_ble_eq_true rfl⟩ ⟨Nat.zero_le _, Nat.zero_le _⟩ (Nat.le_of_ble_eq_true rfl) dX4_totalOf_19 (fun H locs hw => ?_)
      refine lv_ladd hx hb dX4_totalOf_22 ?_
      refine lv_lstore_n (lv' := [(2, .long (x2 + v2)), (0, .ref (xAd κ (26 * wa + 1))), (1, .int x1), (4, .int x4)]) hx hb dX4_totalOf_23 rfl hl (by decide) rfl (fun ls hl => ?_)
      refine lv_iinc (v := (x4 + 1)) (lv' := [(4, .int (x4 + 1)), (2, .long (x2 + v2)), (0, .ref (xAd κ (26 * wa + 1))), (1, .int x1)]) hx hb dX4_totalOf_24 hl (k := 3) rfl rfl (by decide) rfl (fun ls hl => ?_)
      refine lv_goto (tgt := 5) hx hb dX4_totalOf_27 (by decide) ?_
      exact hi _ _ _ _ _ _ hf hw (lv_sub hl [2, 3, 1, 0] rfl)
set_option maxHeartbeats 4000000 in
set_option maxRecDepth 100000 in
theorem m_X4_totalOf {l : Launch} {κ : xKt} {wA : Nat → sAcc} {wa : Nat} {wY : sTxt × sRng × sMai × sRef × sOut} (ha : wa < 9) {fu : Nat} {x1 : Int32} {uP : sPar} {uC : sCla} {uD : sDeb} {uJ : sJou} {ur : xF32} {ut : xF32} {ud : Int32} {ug : Int32} {rr : Int64} (hf : f_X4_totalOf fu x1 uP = some rr) : xMl l κ yX4_totalOf cX4_totalOf 5 (some .long) (xR 2 0 0) [.ref (xAd κ (26 * wa + 1)), .int x1] (upA wA wa (uP, uC, uD, uJ, ur, ut, ud, ug), wY) (upA wA wa (uP, uC, uD, uJ, ur, ut, ud, ug), wY) rr := by
  unfold f_X4_totalOf at hf
  refine xMl_of pn_X4 (Nat.le_of_ble_eq_true rfl) ⟨rfl, rfl⟩ ?_
  intro A p e s m args below meth c ls Q hc hw hl K
  have hc : xC κ A p s m args meth c cX4_totalOf RX4 5 (some .long) := hc
  have hx := hc.1.1
  have hb := hc.1.2.1
  have hl : lv_has ls 5 [(0, .ref (xAd κ (26 * wa + 1))), (1, .int x1)] := hl
  refine lv_lconst (v := 0) hx hb dX4_totalOf_0 (by decide) ?_
  refine lv_lstore_n (lv' := [(2, .long 0), (0, .ref (xAd κ (26 * wa + 1))), (1, .int x1)]) hx hb dX4_totalOf_1 rfl hl (by decide) rfl (fun ls hl => ?_)
  refine lv_iconst (v := 0) hx hb dX4_totalOf_2 (by decide) ?_
  refine lv_istore (lv' := [(4, .int 0), (2, .long 0), (0, .ref (xAd κ (26 * wa + 1))), (1, .int x1)]) hx hb dX4_totalOf_3 hl (by decide) rfl (fun ls hl => ?_)
  exact l_X4_totalOf_5 ha hc K fu _ _ _ _ _ _ hf hw (lv_sub hl [2, 3, 1, 0] rfl)
def f_X1_allLeft_4 (fu : Nat) (uC : sCla) : Nat → (Int64) → (Int32) → Option Int64
  | 0, _, _ => none
  | n + 1, x1, x3 => if uC.1 ≤ x3 then (some x1) else (xb1 (f_X1_leftOf x3 uC) fun v2 => (f_X1_allLeft_4 fu uC n (x1 + v2.toInt64) (x3 + 1)))
def f_X1_allLeft (fu : Nat) (uC : sCla) : Option Int64 :=
  f_X1_allLeft_4 fu uC fu 0 0
set_option maxHeartbeats 4000000 in
set_option maxRecDepth 100000 in
theorem l_X1_allLeft_4 {l : Launch} {κ : xKt} {wA : Nat → sAcc} {wa : Nat} {wY : sTxt × sRng × sMai × sRef × sOut} (ha : wa < 9) {fu : Nat} {uP : sPar} {uC : sCla} {uD : sDeb} {uJ : sJou} {ur : xF32} {ut : xF32} {ud : Int32} {ug : Int32} {A : Nat → Prop} {p : Program} {e : Env} {s : State} {m : MethodId} {args : Array Value} {below : List Frame} {meth : Method} {c : Code} {Q : State → Prop} {rr : Int64}
    (hc : xC κ A p s m args meth c cX1_allLeft RX1 4 (some .long))
    (K : ∀ (pc : Nat) (ls : Array Slot) (H : Heap) (locs : List Loc), decode cX1_allLeft pc = .ok (.lreturn, 1) → xW κ A s (upA wA wa (uP, uC, uD, uJ, ur, ut, ud, ug), wY) H locs → W p l e (xR 1 0 0) s m args below meth c H locs 0 0 Q (F0 m pc ls [.long rr])) :
    ∀ (n : Nat) (x1 : Int64) (x3 : Int32) (H : Heap) (locs : List Loc) (ls : Array Slot), f_X1_allLeft_4 fu uC n x1 x3 = some rr → xW κ A s (upA wA wa (uP, uC, uD, uJ, ur, ut, ud, ug), wY) H locs → lv_has ls 4 [(0, .ref (xAd κ (26 * wa + 8))), (1, .long x1), (3, .int x3)] → W p l e (xR 1 0 0) s m args below meth c H locs 0 0 Q (F0 m 4 ls []) := by
  have hx := hc.1.1
  have hb := hc.1.2.1
  intro n
  induction n with
  | zero =>
    intro x1 x3 H locs ls hf
    rw [f_X1_allLeft_4] at hf
    cases hf
  | succ n hi =>
    intro x1 x3 H locs ls hf hw hl
    rw [f_X1_allLeft_4] at hf
    refine lv_iload_n hx hb dX1_allLeft_4 rfl (lv_at hl 2 rfl) ?_
    refine lv_aload_n hx hb dX1_allLeft_5 rfl (lv_at hl 0 rfl) ?_
    refine x_get (v := .int uC.1) hc hw (ca_8 ha) fX1_9 rfl dX1_allLeft_6 ?_
    refine lv_icmp_ge (tgt := 27) hx hb dX1_allLeft_9 (by decide) (fun c1 => ?_) (fun c1 => ?_)
    · have hf := xif_t c1 hf
      refine lv_lload_n hx hb dX1_allLeft_27 rfl (lv_at hl 1 rfl) ?_
      cases hf
      exact K _ _ _ _ dX1_allLeft_28 hw
    · have hf := xif_f c1 hf
      refine lv_lload_n hx hb dX1_allLeft_12 rfl (lv_at hl 1 rfl) ?_
      refine lv_aload_n hx hb dX1_allLeft_13 rfl (lv_at hl 0 rfl) ?_
      refine lv_iload_n hx hb dX1_allLeft_14 rfl (lv_at hl 2 rfl) ?_
      obtain ⟨v2, h3, hf⟩ := xb1_of hf
      refine x_calliV (As := [.int x3]) (rest := [.long x1]) (σ' := (upA wA wa (uP, uC, uD, uJ, ur, ut, ud, ug), wY)) hc hw hl.1 (m_X1_leftOf ha h3) kX1_40 (ca_8 ha) rfl rfl ⟨rfl, rfl⟩ ⟨Nat.le_of_ble_eq_true rfl, Nat.le_of_ble_eq_true rfl⟩ ⟨Nat.zero_le _, Nat.zero_le _⟩ (Nat.le_of_ble_eq_true rfl) dX1_allLeft_15 (fun H locs hw => ?_)
      refine lv_i2l (v := v2.toInt64) hx hb dX1_allLeft_18 rfl ?_
      refine lv_ladd hx hb dX1_allLeft_19 ?_
      refine lv_lstore_n (lv' := [(1, .long (x1 + v2.toInt64)), (0, .ref (xAd κ (26 * wa + 8))), (3, .int x3)]) hx hb dX1_allLeft_20 rfl hl (by decide) rfl (fun ls hl => ?_)
      refine lv_iinc (v := (x3 + 1)) (lv' := [(3, .int (x3 + 1)), (1, .long (x1 + v2.toInt64)), (0, .ref (xAd κ (26 * wa + 8)))]) hx hb dX1_allLeft_21 hl (k := 2) rfl rfl (by decide) rfl (fun ls hl => ?_)
      refine lv_goto (tgt := 4) hx hb dX1_allLeft_24 (by decide) ?_
      exact hi _ _ _ _ _ hf hw (lv_sub hl [2, 1, 0] rfl)
set_option maxHeartbeats 4000000 in
set_option maxRecDepth 100000 in
theorem m_X1_allLeft {l : Launch} {κ : xKt} {wA : Nat → sAcc} {wa : Nat} {wY : sTxt × sRng × sMai × sRef × sOut} (ha : wa < 9) {fu : Nat} {uP : sPar} {uC : sCla} {uD : sDeb} {uJ : sJou} {ur : xF32} {ut : xF32} {ud : Int32} {ug : Int32} {rr : Int64} (hf : f_X1_allLeft fu uC = some rr) : xMl l κ yX1_allLeft cX1_allLeft 4 (some .long) (xR 1 0 0) [.ref (xAd κ (26 * wa + 8))] (upA wA wa (uP, uC, uD, uJ, ur, ut, ud, ug), wY) (upA wA wa (uP, uC, uD, uJ, ur, ut, ud, ug), wY) rr := by
  unfold f_X1_allLeft at hf
  refine xMl_of pn_X1 (Nat.le_of_ble_eq_true rfl) ⟨rfl, rfl⟩ ?_
  intro A p e s m args below meth c ls Q hc hw hl K
  have hc : xC κ A p s m args meth c cX1_allLeft RX1 4 (some .long) := hc
  have hx := hc.1.1
  have hb := hc.1.2.1
  have hl : lv_has ls 4 [(0, .ref (xAd κ (26 * wa + 8)))] := hl
  refine lv_lconst (v := 0) hx hb dX1_allLeft_0 (by decide) ?_
  refine lv_lstore_n (lv' := [(1, .long 0), (0, .ref (xAd κ (26 * wa + 8)))]) hx hb dX1_allLeft_1 rfl hl (by decide) rfl (fun ls hl => ?_)
  refine lv_iconst (v := 0) hx hb dX1_allLeft_2 (by decide) ?_
  refine lv_istore_n (lv' := [(3, .int 0), (1, .long 0), (0, .ref (xAd κ (26 * wa + 8)))]) hx hb dX1_allLeft_3 rfl hl (by decide) rfl (fun ls hl => ?_)
  exact l_X1_allLeft_4 ha hc K fu _ _ _ _ _ hf hw (lv_sub hl [2, 1, 0] rfl)
def f_X1_addOne (x1 : Int32) (x2 : Int32) (x3 : Int32) (uC : sCla) : Option (Int32 × sCla) :=
  if uC.1 < 12 then (xk (xin uC.1 12) (xk (xin uC.1 12) (xk (xin uC.1 12) (xk (xin uC.1 12) (xk (xin uC.1 12) (xk (xin uC.1 12) (some (uC.1, ((uC.1 + 1), (upd uC.2.1 uC.1.toNatClampNeg x1), (upd uC.2.2.1 uC.1.toNatClampNeg x2), (upd uC.2.2.2.1 uC.1.toNatClampNeg x3), (upd uC.2.2.2.2.1 uC.1.toNatClampNeg 0), (upd uC.2.2.2.2.2.1 uC.1.toNatClampNeg 0), (upd uC.2.2.2.2.2.2 uC.1.toNatClampNeg 0)))))))))) else (some ((-1), uC))
set_option maxHeartbeats 4000000 in
set_option maxRecDepth 100000 in
theorem m_X1_addOne {l : Launch} {κ : xKt} {wA : Nat → sAcc} {wa : Nat} {wY : sTxt × sRng × sMai × sRef × sOut} (ha : wa < 9)  {x1 : Int32} {x2 : Int32} {x3 : Int32} {uP : sPar} {uC : sCla} {uD : sDeb} {uJ : sJou} {ur : xF32} {ut : xF32} {ud : Int32} {ug : Int32} {rr : Int32} {yC : sCla} (hf : f_X1_addOne x1 x2 x3 uC = some (rr, yC)) : xMi l κ yX1_addOne cX1_addOne 5 (some .int) (xR 0 0 0) [.ref (xAd κ (26 * wa + 8)), .int x1, .int x2, .int x3] (upA wA wa (uP, uC, uD, uJ, ur, ut, ud, ug), wY) (upA wA wa (uP, yC, uD, uJ, ur, ut, ud, ug), wY) rr := by
  unfold f_X1_addOne at hf
  refine xMi_of pn_X1 (Nat.le_of_ble_eq_true rfl) ⟨rfl, rfl⟩ ?_
  intro A p e s m args below meth c ls Q hc hw hl K
  have hc : xC κ A p s m args meth c cX1_addOne RX1 5 (some .int) := hc
  have hx := hc.1.1
  have hb := hc.1.2.1
  have hl : lv_has ls 5 [(0, .ref (xAd κ (26 * wa + 8))), (1, .int x1), (2, .int x2), (3, .int x3)] := hl
  refine lv_aload_n hx hb dX1_addOne_0 rfl (lv_at hl 0 rfl) ?_
  refine x_get (v := .int uC.1) hc hw (ca_8 ha) fX1_9 rfl dX1_addOne_1 ?_
  refine lv_istore (lv' := [(4, .int uC.1), (0, .ref (xAd κ (26 * wa + 8))), (1, .int x1), (2, .int x2), (3, .int x3)]) hx hb dX1_addOne_4 hl (by decide) rfl (fun ls hl => ?_)
  refine lv_iload hx hb dX1_addOne_6 (lv_at hl 0 rfl) ?_
  refine lv_bipush (v := 12) hx hb dX1_addOne_8 (by decide) ?_
  refine lv_icmp_lt (tgt := 15) hx hb dX1_addOne_10 (by decide) (fun c1 => ?_) (fun c1 => ?_)
  · have hf := xif_t c1 hf
    refine lv_aload_n hx hb dX1_addOne_15 rfl (lv_at hl 1 rfl) ?_
    refine x_get (v := .ref (xAd κ (26 * wa + 9))) hc hw (ca_8 ha) fX1_15 rfl dX1_addOne_16 ?_
    refine lv_iload hx hb dX1_addOne_19 (lv_at hl 0 rfl) ?_
    refine lv_iload_n hx hb dX1_addOne_21 rfl (lv_at hl 2 rfl) ?_
    obtain ⟨k2, hf⟩ := xk_of hf
    refine x_iast (n := 12) (f := uC.2.1) (σ' := (upA wA wa (uP, (uC.1, (upd uC.2.1 uC.1.toNatClampNeg x1), uC.2.2.1, uC.2.2.2.1, uC.2.2.2.2.1, uC.2.2.2.2.2.1, uC.2.2.2.2.2.2), uD, uJ, ur, ut, ud, ug), wY)) hc hw (ca_9 ha) k2 (sa_1_1 ha) dX1_addOne_22 (fun H locs hw => ?_)
    refine lv_aload_n hx hb dX1_addOne_23 rfl (lv_at hl 1 rfl) ?_
    refine x_get (v := .ref (xAd κ (26 * wa + 10))) hc hw (ca_8 ha) fX1_19 rfl dX1_addOne_24 ?_
    refine lv_iload hx hb dX1_addOne_27 (lv_at hl 0 rfl) ?_
    refine lv_iload_n hx hb dX1_addOne_29 rfl (lv_at hl 3 rfl) ?_
    obtain ⟨k3, hf⟩ := xk_of hf
    refine x_iast (n := 12) (f := uC.2.2.1) (σ' := (upA wA wa (uP, (uC.1, (upd uC.2.1 uC.1.toNatClampNeg x1), (upd uC.2.2.1 uC.1.toNatClampNeg x2), uC.2.2.2.1, uC.2.2.2.2.1, uC.2.2.2.2.2.1, uC.2.2.2.2.2.2), uD, uJ, ur, ut, ud, ug), wY)) hc hw (ca_10 ha) k3 (sa_1_2 ha) dX1_addOne_30 (fun H locs hw => ?_)
    refine lv_aload_n hx hb dX1_addOne_31 rfl (lv_at hl 1 rfl) ?_
    refine x_get (v := .ref (xAd κ (26 * wa + 11))) hc hw (ca_8 ha) fX1_22 rfl dX1_addOne_32 ?_
    refine lv_iload hx hb dX1_addOne_35 (lv_at hl 0 rfl) ?_
    refine lv_iload_n hx hb dX1_addOne_37 rfl (lv_at hl 4 rfl) ?_
    obtain ⟨k4, hf⟩ := xk_of hf
    refine x_iast (n := 12) (f := uC.2.2.2.1) (σ' := (upA wA wa (uP, (uC.1, (upd uC.2.1 uC.1.toNatClampNeg x1), (upd uC.2.2.1 uC.1.toNatClampNeg x2), (upd uC.2.2.2.1 uC.1.toNatClampNeg x3), uC.2.2.2.2.1, uC.2.2.2.2.2.1, uC.2.2.2.2.2.2), uD, uJ, ur, ut, ud, ug), wY)) hc hw (ca_11 ha) k4 (sa_1_3 ha) dX1_addOne_38 (fun H locs hw => ?_)
    refine lv_aload_n hx hb dX1_addOne_39 rfl (lv_at hl 1 rfl) ?_
    refine x_get (v := .ref (xAd κ (26 * wa + 12))) hc hw (ca_8 ha) fX1_25 rfl dX1_addOne_40 ?_
    refine lv_iload hx hb dX1_addOne_43 (lv_at hl 0 rfl) ?_
    refine lv_iconst (v := 0) hx hb dX1_addOne_45 (by decide) ?_
    obtain ⟨k5, hf⟩ := xk_of hf
    refine x_iast (n := 12) (f := uC.2.2.2.2.1) (σ' := (upA wA wa (uP, (uC.1, (upd uC.2.1 uC.1.toNatClampNeg x1), (upd uC.2.2.1 uC.1.toNatClampNeg x2), (upd uC.2.2.2.1 uC.1.toNatClampNeg x3), (upd uC.2.2.2.2.1 uC.1.toNatClampNeg 0), uC.2.2.2.2.2.1, uC.2.2.2.2.2.2), uD, uJ, ur, ut, ud, ug), wY)) hc hw (ca_12 ha) k5 (sa_1_4 ha) dX1_addOne_46 (fun H locs hw => ?_)
    refine lv_aload_n hx hb dX1_addOne_47 rfl (lv_at hl 1 rfl) ?_
    refine x_get (v := .ref (xAd κ (26 * wa + 13))) hc hw (ca_8 ha) fX1_28 rfl dX1_addOne_48 ?_
    refine lv_iload hx hb dX1_addOne_51 (lv_at hl 0 rfl) ?_
    refine lv_iconst (v := 0) hx hb dX1_addOne_53 (by decide) ?_
    obtain ⟨k6, hf⟩ := xk_of hf
    refine x_iast (n := 12) (f := uC.2.2.2.2.2.1) (σ' := (upA wA wa (uP, (uC.1, (upd uC.2.1 uC.1.toNatClampNeg x1), (upd uC.2.2.1 uC.1.toNatClampNeg x2), (upd uC.2.2.2.1 uC.1.toNatClampNeg x3), (upd uC.2.2.2.2.1 uC.1.toNatClampNeg 0), (upd uC.2.2.2.2.2.1 uC.1.toNatClampNeg 0), uC.2.2.2.2.2.2), uD, uJ, ur, ut, ud, ug), wY)) hc hw (ca_13 ha) k6 (sa_1_5 ha) dX1_addOne_54 (fun H locs hw => ?_)
    refine lv_aload_n hx hb dX1_addOne_55 rfl (lv_at hl 1 rfl) ?_
    refine x_get (v := .ref (xAd κ (26 * wa + 14))) hc hw (ca_8 ha) fX1_31 rfl dX1_addOne_56 ?_
    refine lv_iload hx hb dX1_addOne_59 (lv_at hl 0 rfl) ?_
    refine lv_iconst (v := 0) hx hb dX1_addOne_61 (by decide) ?_
    obtain ⟨k7, hf⟩ := xk_of hf
    refine x_iast (n := 12) (f := uC.2.2.2.2.2.2) (σ' := (upA wA wa (uP, (uC.1, (upd uC.2.1 uC.1.toNatClampNeg x1), (upd uC.2.2.1 uC.1.toNatClampNeg x2), (upd uC.2.2.2.1 uC.1.toNatClampNeg x3), (upd uC.2.2.2.2.1 uC.1.toNatClampNeg 0), (upd uC.2.2.2.2.2.1 uC.1.toNatClampNeg 0), (upd uC.2.2.2.2.2.2 uC.1.toNatClampNeg 0)), uD, uJ, ur, ut, ud, ug), wY)) hc hw (ca_14 ha) k7 (sa_1_6 ha) dX1_addOne_62 (fun H locs hw => ?_)
    refine lv_aload_n hx hb dX1_addOne_63 rfl (lv_at hl 1 rfl) ?_
    refine lv_dup hx hb dX1_addOne_64 rfl ?_
    refine x_get (v := .int uC.1) hc hw (ca_8 ha) fX1_9 rfl dX1_addOne_65 ?_
    refine lv_iconst (v := 1) hx hb dX1_addOne_68 (by decide) ?_
    refine lv_iadd hx hb dX1_addOne_69 ?_
    refine x_put (σ' := (upA wA wa (uP, ((uC.1 + 1), (upd uC.2.1 uC.1.toNatClampNeg x1), (upd uC.2.2.1 uC.1.toNatClampNeg x2), (upd uC.2.2.2.1 uC.1.toNatClampNeg x3), (upd uC.2.2.2.2.1 uC.1.toNatClampNeg 0), (upd uC.2.2.2.2.2.1 uC.1.toNatClampNeg 0), (upd uC.2.2.2.2.2.2 uC.1.toNatClampNeg 0)), uD, uJ, ur, ut, ud, ug), wY)) hc hw (ca_8 ha) fX1_9 rfl rfl (Nat.le_of_ble_eq_true rfl) (sa_1_0 ha) dX1_addOne_70 (fun H locs hw => ?_)
    refine lv_iload hx hb dX1_addOne_73 (lv_at hl 0 rfl) ?_
    cases hf
    exact K _ _ _ _ dX1_addOne_75 rfl hw
  · have hf := xif_f c1 hf
    refine lv_iconst (v := (-1)) hx hb dX1_addOne_13 (by decide) ?_
    cases hf
    exact K _ _ _ _ dX1_addOne_14 rfl hw
def f_X1_numberOf (x1 : Int32) (x2 : Int32) (uC : sCla) : Option Int32 :=
  if x2 = 0 then (xk (xin x1 12) (some ((uC.2.1 x1.toNatClampNeg)))) else (if x2 = 1 then (xk (xin x1 12) (some ((uC.2.2.1 x1.toNatClampNeg)))) else (if x2 = 2 then (xk (xin x1 12) (some ((uC.2.2.2.1 x1.toNatClampNeg)))) else (if x2 = 3 then (xk (xin x1 12) (some ((uC.2.2.2.2.1 x1.toNatClampNeg)))) else (if x2 = 4 then (xk (xin x1 12) (some ((uC.2.2.2.2.2.1 x1.toNatClampNeg)))) else (if x2 = 5 then (xk (xin x1 12) (some ((uC.2.2.2.2.2.2 x1.toNatClampNeg)))) else (xb1 (f_X1_leftOf x1 uC) fun v13 => (some v13)))))))
set_option maxHeartbeats 4000000 in
set_option maxRecDepth 100000 in
theorem m_X1_numberOf {l : Launch} {κ : xKt} {wA : Nat → sAcc} {wa : Nat} {wY : sTxt × sRng × sMai × sRef × sOut} (ha : wa < 9)  {x1 : Int32} {x2 : Int32} {uP : sPar} {uC : sCla} {uD : sDeb} {uJ : sJou} {ur : xF32} {ut : xF32} {ud : Int32} {ug : Int32} {rr : Int32} (hf : f_X1_numberOf x1 x2 uC = some rr) : xMi l κ yX1_numberOf cX1_numberOf 3 (some .int) (xR 1 0 0) [.ref (xAd κ (26 * wa + 8)), .int x1, .int x2] (upA wA wa (uP, uC, uD, uJ, ur, ut, ud, ug), wY) (upA wA wa (uP, uC, uD, uJ, ur, ut, ud, ug), wY) rr := by
  unfold f_X1_numberOf at hf
  refine xMi_of pn_X1 (Nat.le_of_ble_eq_true rfl) ⟨rfl, rfl⟩ ?_
  intro A p e s m args below meth c ls Q hc hw hl K
  have hc : xC κ A p s m args meth c cX1_numberOf RX1 3 (some .int) := hc
  have hx := hc.1.1
  have hb := hc.1.2.1
  have hl : lv_has ls 3 [(0, .ref (xAd κ (26 * wa + 8))), (1, .int x1), (2, .int x2)] := hl
  refine lv_iload_n hx hb dX1_numberOf_0 rfl (lv_at hl 2 rfl) ?_
  by_cases c1 : x2 = 0
  · have hf := xif_t c1 hf
    refine x_tabI (k := 0) (off := 39) (tgt := 40) hx hb dX1_numberOf_1 c1 (by decide) (by decide) (by decide) ?_
    refine lv_aload_n hx hb dX1_numberOf_40 rfl (lv_at hl 0 rfl) ?_
    refine x_get (v := .ref (xAd κ (26 * wa + 9))) hc hw (ca_8 ha) fX1_15 rfl dX1_numberOf_41 ?_
    refine lv_iload_n hx hb dX1_numberOf_44 rfl (lv_at hl 1 rfl) ?_
    obtain ⟨k2, hf⟩ := xk_of hf
    refine x_iald (n := 12) (f := uC.2.1) hc hw (ca_9 ha) k2 dX1_numberOf_45 ?_
    cases hf
    exact K _ _ _ _ dX1_numberOf_46 rfl hw
  have hf := xif_f c1 hf
  by_cases c3 : x2 = 1
  · have hf := xif_t c3 hf
    refine x_tabI (k := 1) (off := 46) (tgt := 47) hx hb dX1_numberOf_1 c3 (by decide) (by decide) (by decide) ?_
    refine lv_aload_n hx hb dX1_numberOf_47 rfl (lv_at hl 0 rfl) ?_
    refine x_get (v := .ref (xAd κ (26 * wa + 10))) hc hw (ca_8 ha) fX1_19 rfl dX1_numberOf_48 ?_
    refine lv_iload_n hx hb dX1_numberOf_51 rfl (lv_at hl 1 rfl) ?_
    obtain ⟨k4, hf⟩ := xk_of hf
    refine x_iald (n := 12) (f := uC.2.2.1) hc hw (ca_10 ha) k4 dX1_numberOf_52 ?_
    cases hf
    exact K _ _ _ _ dX1_numberOf_53 rfl hw
  have hf := xif_f c3 hf
  by_cases c5 : x2 = 2
  · have hf := xif_t c5 hf
    refine x_tabI (k := 2) (off := 53) (tgt := 54) hx hb dX1_numberOf_1 c5 (by decide) (by decide) (by decide) ?_
    refine lv_aload_n hx hb dX1_numberOf_54 rfl (lv_at hl 0 rfl) ?_
    refine x_get (v := .ref (xAd κ (26 * wa + 11))) hc hw (ca_8 ha) fX1_22 rfl dX1_numberOf_55 ?_
    refine lv_iload_n hx hb dX1_numberOf_58 rfl (lv_at hl 1 rfl) ?_
    obtain ⟨k6, hf⟩ := xk_of hf
    refine x_iald (n := 12) (f := uC.2.2.2.1) hc hw (ca_11 ha) k6 dX1_numberOf_59 ?_
    cases hf
    exact K _ _ _ _ dX1_numberOf_60 rfl hw
  have hf := xif_f c5 hf
  by_cases c7 : x2 = 3
  · have hf := xif_t c7 hf
    refine x_tabI (k := 3) (off := 60) (tgt := 61) hx hb dX1_numberOf_1 c7 (by decide) (by decide) (by decide) ?_
    refine lv_aload_n hx hb dX1_numberOf_61 rfl (lv_at hl 0 rfl) ?_
    refine x_get (v := .ref (xAd κ (26 * wa + 12))) hc hw (ca_8 ha) fX1_25 rfl dX1_numberOf_62 ?_
    refine lv_iload_n hx hb dX1_numberOf_65 rfl (lv_at hl 1 rfl) ?_
    obtain ⟨k8, hf⟩ := xk_of hf
    refine x_iald (n := 12) (f := uC.2.2.2.2.1) hc hw (ca_12 ha) k8 dX1_numberOf_66 ?_
    cases hf
    exact K _ _ _ _ dX1_numberOf_67 rfl hw
  have hf := xif_f c7 hf
  by_cases c9 : x2 = 4
  · have hf := xif_t c9 hf
    refine x_tabI (k := 4) (off := 67) (tgt := 68) hx hb dX1_numberOf_1 c9 (by decide) (by decide) (by decide) ?_
    refine lv_aload_n hx hb dX1_numberOf_68 rfl (lv_at hl 0 rfl) ?_
    refine x_get (v := .ref (xAd κ (26 * wa + 13))) hc hw (ca_8 ha) fX1_28 rfl dX1_numberOf_69 ?_
    refine lv_iload_n hx hb dX1_numberOf_72 rfl (lv_at hl 1 rfl) ?_
    obtain ⟨k10, hf⟩ := xk_of hf
    refine x_iald (n := 12) (f := uC.2.2.2.2.2.1) hc hw (ca_13 ha) k10 dX1_numberOf_73 ?_
    cases hf
    exact K _ _ _ _ dX1_numberOf_74 rfl hw
  have hf := xif_f c9 hf
  by_cases c11 : x2 = 5
  · have hf := xif_t c11 hf
    refine x_tabI (k := 5) (off := 74) (tgt := 75) hx hb dX1_numberOf_1 c11 (by decide) (by decide) (by decide) ?_
    refine lv_aload_n hx hb dX1_numberOf_75 rfl (lv_at hl 0 rfl) ?_
    refine x_get (v := .ref (xAd κ (26 * wa + 14))) hc hw (ca_8 ha) fX1_31 rfl dX1_numberOf_76 ?_
    refine lv_iload_n hx hb dX1_numberOf_79 rfl (lv_at hl 1 rfl) ?_
    obtain ⟨k12, hf⟩ := xk_of hf
    refine x_iald (n := 12) (f := uC.2.2.2.2.2.2) hc hw (ca_14 ha) k12 dX1_numberOf_80 ?_
    cases hf
    exact K _ _ _ _ dX1_numberOf_81 rfl hw
  have hf := xif_f c11 hf
  have c1 := x_neT (z := 0) c1 (by decide)
  have c3 := x_neT (z := 1) c3 (by decide)
  have c5 := x_neT (z := 2) c5 (by decide)
  have c7 := x_neT (z := 3) c7 (by decide)
  have c9 := x_neT (z := 4) c9 (by decide)
  have c11 := x_neT (z := 5) c11 (by decide)
  refine x_tabD (tgt := 82) hx hb dX1_numberOf_1 (by omega) (by decide) ?_
  refine lv_aload_n hx hb dX1_numberOf_82 rfl (lv_at hl 0 rfl) ?_
  refine lv_iload_n hx hb dX1_numberOf_83 rfl (lv_at hl 1 rfl) ?_
  obtain ⟨v13, h14, hf⟩ := xb1_of hf
  refine x_calliV (As := [.int x1]) (rest := []) (σ' := (upA wA wa (uP, uC, uD, uJ, ur, ut, ud, ug), wY)) hc hw hl.1 (m_X1_leftOf ha h14) kX1_40 (ca_8 ha) rfl rfl ⟨rfl, rfl⟩ ⟨Nat.le_of_ble_eq_true rfl, Nat.le_of_ble_eq_true rfl⟩ ⟨Nat.zero_le _, Nat.zero_le _⟩ (Nat.le_of_ble_eq_true rfl) dX1_numberOf_84 (fun H locs hw => ?_)
  cases hf
  exact K _ _ _ _ dX1_numberOf_87 rfl hw
def f_X2_has (x1 : Int32) (uD : sDeb) : Option Int32 :=
  if x1 < 0 then (some 0) else (if uD.1 ≤ x1 then (some 0) else (some 1))
set_option maxHeartbeats 4000000 in
set_option maxRecDepth 100000 in
theorem m_X2_has {l : Launch} {κ : xKt} {wA : Nat → sAcc} {wa : Nat} {wY : sTxt × sRng × sMai × sRef × sOut} (ha : wa < 9)  {x1 : Int32} {uP : sPar} {uC : sCla} {uD : sDeb} {uJ : sJou} {ur : xF32} {ut : xF32} {ud : Int32} {ug : Int32} {rr : Int32} (hf : f_X2_has x1 uD = some rr) : xMi l κ yX2_has cX2_has 2 (some .boolean) (xR 0 0 0) [.ref (xAd κ (26 * wa + 15)), .int x1] (upA wA wa (uP, uC, uD, uJ, ur, ut, ud, ug), wY) (upA wA wa (uP, uC, uD, uJ, ur, ut, ud, ug), wY) rr := by
  unfold f_X2_has at hf
  refine xMi_of pn_X2 (Nat.le_of_ble_eq_true rfl) ⟨rfl, rfl⟩ ?_
  intro A p e s m args below meth c ls Q hc hw hl K
  have hc : xC κ A p s m args meth c cX2_has RX2 2 (some .boolean) := hc
  have hx := hc.1.1
  have hb := hc.1.2.1
  have hl : lv_has ls 2 [(0, .ref (xAd κ (26 * wa + 15))), (1, .int x1)] := hl
  refine lv_iload_n hx hb dX2_has_0 rfl (lv_at hl 1 rfl) ?_
  refine lv_if_lt (tgt := 16) hx hb dX2_has_1 (by decide) (fun c1 => ?_) (fun c1 => ?_)
  · have hf := xif_t c1 hf
    refine lv_iconst (v := 0) hx hb dX2_has_16 (by decide) ?_
    cases hf
    exact K _ _ _ _ dX2_has_17 rfl hw
  · have hf := xif_f c1 hf
    refine lv_iload_n hx hb dX2_has_4 rfl (lv_at hl 1 rfl) ?_
    refine lv_aload_n hx hb dX2_has_5 rfl (lv_at hl 0 rfl) ?_
    refine x_get (v := .int uD.1) hc hw (ca_15 ha) fX2_9 rfl dX2_has_6 ?_
    refine lv_icmp_ge (tgt := 16) hx hb dX2_has_9 (by decide) (fun c2 => ?_) (fun c2 => ?_)
    · have hf := xif_t c2 hf
      refine lv_iconst (v := 0) hx hb dX2_has_16 (by decide) ?_
      cases hf
      exact K _ _ _ _ dX2_has_17 rfl hw
    · have hf := xif_f c2 hf
      refine lv_iconst (v := 1) hx hb dX2_has_12 (by decide) ?_
      refine lv_goto (tgt := 17) hx hb dX2_has_13 (by decide) ?_
      cases hf
      exact K _ _ _ _ dX2_has_17 rfl hw
def f_X2_daysUntil (x1 : Int32) (x2 : Int64) (x4 : Int32) (uD : sDeb) : Option Int64 :=
  xb1 (f_X2_amountOf x1 uD) fun v1 => (if 0 < (x2 - v1) then (xk (xin x1 30) (if 0 < ((uD.2.2.2.1 x1.toNatClampNeg) * x4.toInt64) then (xk (xin x1 30) (xk (xnzl ((uD.2.2.2.1 x1.toNatClampNeg) * x4.toInt64)) (some (((((((x2 - v1) * 3600000) - (uD.2.2.2.2.2 x1.toNatClampNeg)) + ((uD.2.2.2.1 x1.toNatClampNeg) * x4.toInt64)) - 1) / ((uD.2.2.2.1 x1.toNatClampNeg) * x4.toInt64)))))) else (some 3651))) else (some 0))
set_option maxHeartbeats 4000000 in
set_option maxRecDepth 100000 in
theorem m_X2_daysUntil {l : Launch} {κ : xKt} {wA : Nat → sAcc} {wa : Nat} {wY : sTxt × sRng × sMai × sRef × sOut} (ha : wa < 9)  {x1 : Int32} {x2 : Int64} {x4 : Int32} {uP : sPar} {uC : sCla} {uD : sDeb} {uJ : sJou} {ur : xF32} {ut : xF32} {ud : Int32} {ug : Int32} {rr : Int64} (hf : f_X2_daysUntil x1 x2 x4 uD = some rr) : xMl l κ yX2_daysUntil cX2_daysUntil 11 (some .long) (xR 1 0 0) [.ref (xAd κ (26 * wa + 15)), .int x1, .long x2, .int x4] (upA wA wa (uP, uC, uD, uJ, ur, ut, ud, ug), wY) (upA wA wa (uP, uC, uD, uJ, ur, ut, ud, ug), wY) rr := by
  unfold f_X2_daysUntil at hf
  refine xMl_of pn_X2 (Nat.le_of_ble_eq_true rfl) ⟨rfl, rfl⟩ ?_
  intro A p e s m args below meth c ls Q hc hw hl K
  have hc : xC κ A p s m args meth c cX2_daysUntil RX2 11 (some .long) := hc
  have hx := hc.1.1
  have hb := hc.1.2.1
  have hl : lv_has ls 11 [(0, .ref (xAd κ (26 * wa + 15))), (1, .int x1), (2, .long x2), (4, .int x4)] := hl
  refine lv_lload_n hx hb dX2_daysUntil_0 rfl (lv_at hl 2 rfl) ?_
  refine lv_aload_n hx hb dX2_daysUntil_1 rfl (lv_at hl 0 rfl) ?_
  refine lv_iload_n hx hb dX2_daysUntil_2 rfl (lv_at hl 1 rfl) ?_
  obtain ⟨v1, h2, hf⟩ := xb1_of hf
  refine x_calllV (As := [.int x1]) (rest := [.long x2]) (σ' := (upA wA wa (uP, uC, uD, uJ, ur, ut, ud, ug), wY)) hc hw hl.1 (m_X2_amountOf ha h2) kX2_42 (ca_15 ha) rfl rfl ⟨rfl, rfl⟩ ⟨Nat.le_of_ble_eq_true rfl, Nat.le_of_ble_eq_true rfl⟩ ⟨Nat.zero_le _, Nat.zero_le _⟩ (Nat.le_of_ble_eq_true rfl) dX2_daysUntil_3 (fun H locs hw => ?_)
  refine lv_lsub hx hb dX2_daysUntil_6 ?_
  refine lv_lstore (lv' := [(5, .long (x2 - v1)), (0, .ref (xAd κ (26 * wa + 15))), (1, .int x1), (2, .long x2), (4, .int x4)]) hx hb dX2_daysUntil_7 hl (by decide) rfl (fun ls hl => ?_)
  refine lv_lload hx hb dX2_daysUntil_9 (lv_at hl 0 rfl) ?_
  refine lv_lconst (v := 0) hx hb dX2_daysUntil_11 (by decide) ?_
  refine x_lcmp_gt (tgt := 18) hx hb dX2_daysUntil_12 dX2_daysUntil_13 (by decide) (fun c3 => ?_) (fun c3 => ?_)
  · have hf := xif_t c3 hf
    refine lv_aload_n hx hb dX2_daysUntil_18 rfl (lv_at hl 1 rfl) ?_
    refine x_get (v := .ref (xAd κ (26 * wa + 18))) hc hw (ca_15 ha) fX2_22 rfl dX2_daysUntil_19 ?_
    refine lv_iload_n hx hb dX2_daysUntil_22 rfl (lv_at hl 2 rfl) ?_
    obtain ⟨k4, hf⟩ := xk_of hf
    refine x_lald (n := 30) (f := uD.2.2.2.1) hc hw (ca_18 ha) k4 dX2_daysUntil_23 ?_
    refine lv_iload hx hb dX2_daysUntil_24 (lv_at hl 4 rfl) ?_
    refine lv_i2l (v := x4.toInt64) hx hb dX2_daysUntil_26 rfl ?_
    refine lv_lmul hx hb dX2_daysUntil_27 ?_
    refine lv_lstore (lv' := [(7, .long ((uD.2.2.2.1 x1.toNatClampNeg) * x4.toInt64)), (5, .long (x2 - v1)), (0, .ref (xAd κ (26 * wa + 15))), (1, .int x1), (2, .long x2), (4, .int x4)]) hx hb dX2_daysUntil_28 hl (by decide) rfl (fun ls hl => ?_)
    refine lv_lload hx hb dX2_daysUntil_30 (lv_at hl 0 rfl) ?_
    refine lv_lconst (v := 0) hx hb dX2_daysUntil_32 (by decide) ?_
    refine x_lcmp_gt (tgt := 41) hx hb dX2_daysUntil_33 dX2_daysUntil_34 (by decide) (fun c5 => ?_) (fun c5 => ?_)
    · have hf := xif_t c5 hf
      refine lv_lload hx hb dX2_daysUntil_41 (lv_at hl 1 rfl) ?_
      refine x_ldc2 hc w_constantLong_RX2_56_3600000 dX2_daysUntil_43 ?_
      refine lv_lmul hx hb dX2_daysUntil_46 ?_
      refine lv_aload_n hx hb dX2_daysUntil_47 rfl (lv_at hl 2 rfl) ?_
      refine x_get (v := .ref (xAd κ (26 * wa + 20))) hc hw (ca_15 ha) fX2_29 rfl dX2_daysUntil_48 ?_
      refine lv_iload_n hx hb dX2_daysUntil_51 rfl (lv_at hl 3 rfl) ?_
      obtain ⟨k6, hf⟩ := xk_of hf
      refine x_lald (n := 30) (f := uD.2.2.2.2.2) hc hw (ca_20 ha) k6 dX2_daysUntil_52 ?_
      refine lv_lsub hx hb dX2_daysUntil_53 ?_
      refine lv_lstore (lv' := [(9, .long (((x2 - v1) * 3600000) - (uD.2.2.2.2.2 x1.toNatClampNeg))), (7, .long ((uD.2.2.2.1 x1.toNatClampNeg) * x4.toInt64)), (5, .long (x2 - v1)), (0, .ref (xAd κ (26 * wa + 15))), (1, .int x1), (2, .long x2), (4, .int x4)]) hx hb dX2_daysUntil_54 hl (by decide) rfl (fun ls hl => ?_)
      refine lv_lload hx hb dX2_daysUntil_56 (lv_at hl 0 rfl) ?_
      refine lv_lload hx hb dX2_daysUntil_58 (lv_at hl 1 rfl) ?_
      refine lv_ladd hx hb dX2_daysUntil_60 ?_
      refine lv_lconst (v := 1) hx hb dX2_daysUntil_61 (by decide) ?_
      refine lv_lsub hx hb dX2_daysUntil_62 ?_
      refine lv_lload hx hb dX2_daysUntil_63 (lv_at hl 1 rfl) ?_
      obtain ⟨k7, hf⟩ := xk_of hf
      refine lv_ldiv hx hb dX2_daysUntil_65 (of_decide_eq_true k7) ?_
      cases hf
      exact K _ _ _ _ dX2_daysUntil_66 hw
    · have hf := xif_f c5 hf
      refine x_ldc2 hc w_constantLong_RX2_58_3651 dX2_daysUntil_37 ?_
      cases hf
      exact K _ _ _ _ dX2_daysUntil_40 hw
  · have hf := xif_f c3 hf
    refine lv_lconst (v := 0) hx hb dX2_daysUntil_16 (by decide) ?_
    cases hf
    exact K _ _ _ _ dX2_daysUntil_17 hw
def f_X2_numberOf (x1 : Int32) (x2 : Int32) (uD : sDeb) : Option Int64 :=
  if x2 = 0 then (xk (xin x1 30) (some ((uD.2.1 x1.toNatClampNeg).toInt64))) else (if x2 = 1 then (xk (xin x1 30) (some ((uD.2.2.1 x1.toNatClampNeg).toInt64))) else (if x2 = 2 then (xk (xin x1 30) (some ((uD.2.2.2.1 x1.toNatClampNeg)))) else (if x2 = 3 then (xk (xin x1 30) (some ((uD.2.2.2.2.1 x1.toNatClampNeg)))) else (xk (xin x1 30) (some ((uD.2.2.2.2.2 x1.toNatClampNeg)))))))
set_option maxHeartbeats 4000000 in
set_option maxRecDepth 100000 in
theorem m_X2_numberOf {l : Launch} {κ : xKt} {wA : Nat → sAcc} {wa : Nat} {wY : sTxt × sRng × sMai × sRef × sOut} (ha : wa < 9)  {x1 : Int32} {x2 : Int32} {uP : sPar} {uC : sCla} {uD : sDeb} {uJ : sJou} {ur : xF32} {ut : xF32} {ud : Int32} {ug : Int32} {rr : Int64} (hf : f_X2_numberOf x1 x2 uD = some rr) : xMl l κ yX2_numberOf cX2_numberOf 3 (some .long) (xR 0 0 0) [.ref (xAd κ (26 * wa + 15)), .int x1, .int x2] (upA wA wa (uP, uC, uD, uJ, ur, ut, ud, ug), wY) (upA wA wa (uP, uC, uD, uJ, ur, ut, ud, ug), wY) rr := by
  unfold f_X2_numberOf at hf
  refine xMl_of pn_X2 (Nat.le_of_ble_eq_true rfl) ⟨rfl, rfl⟩ ?_
  intro A p e s m args below meth c ls Q hc hw hl K
  have hc : xC κ A p s m args meth c cX2_numberOf RX2 3 (some .long) := hc
  have hx := hc.1.1
  have hb := hc.1.2.1
  have hl : lv_has ls 3 [(0, .ref (xAd κ (26 * wa + 15))), (1, .int x1), (2, .int x2)] := hl
  refine lv_iload_n hx hb dX2_numberOf_0 rfl (lv_at hl 2 rfl) ?_
  by_cases c1 : x2 = 0
  · have hf := xif_t c1 hf
    refine x_tabI (k := 0) (off := 31) (tgt := 32) hx hb dX2_numberOf_1 c1 (by decide) (by decide) (by decide) ?_
    refine lv_aload_n hx hb dX2_numberOf_32 rfl (lv_at hl 0 rfl) ?_
    refine x_get (v := .ref (xAd κ (26 * wa + 16))) hc hw (ca_15 ha) fX2_15 rfl dX2_numberOf_33 ?_
    refine lv_iload_n hx hb dX2_numberOf_36 rfl (lv_at hl 1 rfl) ?_
    obtain ⟨k2, hf⟩ := xk_of hf
    refine x_iald (n := 30) (f := uD.2.1) hc hw (ca_16 ha) k2 dX2_numberOf_37 ?_
    refine lv_i2l (v := (uD.2.1 x1.toNatClampNeg).toInt64) hx hb dX2_numberOf_38 rfl ?_
    cases hf
    exact K _ _ _ _ dX2_numberOf_39 hw
  have hf := xif_f c1 hf
  by_cases c3 : x2 = 1
  · have hf := xif_t c3 hf
    refine x_tabI (k := 1) (off := 39) (tgt := 40) hx hb dX2_numberOf_1 c3 (by decide) (by decide) (by decide) ?_
    refine lv_aload_n hx hb dX2_numberOf_40 rfl (lv_at hl 0 rfl) ?_
    refine x_get (v := .ref (xAd κ (26 * wa + 17))) hc hw (ca_15 ha) fX2_19 rfl dX2_numberOf_41 ?_
    refine lv_iload_n hx hb dX2_numberOf_44 rfl (lv_at hl 1 rfl) ?_
    obtain ⟨k4, hf⟩ := xk_of hf
    refine x_iald (n := 30) (f := uD.2.2.1) hc hw (ca_17 ha) k4 dX2_numberOf_45 ?_
    refine lv_i2l (v := (uD.2.2.1 x1.toNatClampNeg).toInt64) hx hb dX2_numberOf_46 rfl ?_
    cases hf
    exact K _ _ _ _ dX2_numberOf_47 hw
  have hf := xif_f c3 hf
  by_cases c5 : x2 = 2
  · have hf := xif_t c5 hf
    refine x_tabI (k := 2) (off := 47) (tgt := 48) hx hb dX2_numberOf_1 c5 (by decide) (by decide) (by decide) ?_
    refine lv_aload_n hx hb dX2_numberOf_48 rfl (lv_at hl 0 rfl) ?_
    refine x_get (v := .ref (xAd κ (26 * wa + 18))) hc hw (ca_15 ha) fX2_22 rfl dX2_numberOf_49 ?_
    refine lv_iload_n hx hb dX2_numberOf_52 rfl (lv_at hl 1 rfl) ?_
    obtain ⟨k6, hf⟩ := xk_of hf
    refine x_lald (n := 30) (f := uD.2.2.2.1) hc hw (ca_18 ha) k6 dX2_numberOf_53 ?_
    cases hf
    exact K _ _ _ _ dX2_numberOf_54 hw
  have hf := xif_f c5 hf
  by_cases c7 : x2 = 3
  · have hf := xif_t c7 hf
    refine x_tabI (k := 3) (off := 54) (tgt := 55) hx hb dX2_numberOf_1 c7 (by decide) (by decide) (by decide) ?_
    refine lv_aload_n hx hb dX2_numberOf_55 rfl (lv_at hl 0 rfl) ?_
    refine x_get (v := .ref (xAd κ (26 * wa + 19))) hc hw (ca_15 ha) fX2_26 rfl dX2_numberOf_56 ?_
    refine lv_iload_n hx hb dX2_numberOf_59 rfl (lv_at hl 1 rfl) ?_
    obtain ⟨k8, hf⟩ := xk_of hf
    refine x_lald (n := 30) (f := uD.2.2.2.2.1) hc hw (ca_19 ha) k8 dX2_numberOf_60 ?_
    cases hf
    exact K _ _ _ _ dX2_numberOf_61 hw
  have hf := xif_f c7 hf
  have c1 := x_neT (z := 0) c1 (by decide)
  have c3 := x_neT (z := 1) c3 (by decide)
  have c5 := x_neT (z := 2) c5 (by decide)
  have c7 := x_neT (z := 3) c7 (by decide)
  refine x_tabD (tgt := 62) hx hb dX2_numberOf_1 (by omega) (by decide) ?_
  refine lv_aload_n hx hb dX2_numberOf_62 rfl (lv_at hl 0 rfl) ?_
  refine x_get (v := .ref (xAd κ (26 * wa + 20))) hc hw (ca_15 ha) fX2_29 rfl dX2_numberOf_63 ?_
  refine lv_iload_n hx hb dX2_numberOf_66 rfl (lv_at hl 1 rfl) ?_
  obtain ⟨k9, hf⟩ := xk_of hf
  refine x_lald (n := 30) (f := uD.2.2.2.2.2) hc hw (ca_20 ha) k9 dX2_numberOf_67 ?_
  cases hf
  exact K _ _ _ _ dX2_numberOf_68 hw
def f_X3_has (x1 : Int32) (uJ : sJou) : Option Int32 :=
  if x1 < 0 then (some 0) else (if uJ.1 ≤ x1 then (some 0) else (some 1))
set_option maxHeartbeats 4000000 in
set_option maxRecDepth 100000 in
theorem m_X3_has {l : Launch} {κ : xKt} {wA : Nat → sAcc} {wa : Nat} {wY : sTxt × sRng × sMai × sRef × sOut} (ha : wa < 9)  {x1 : Int32} {uP : sPar} {uC : sCla} {uD : sDeb} {uJ : sJou} {ur : xF32} {ut : xF32} {ud : Int32} {ug : Int32} {rr : Int32} (hf : f_X3_has x1 uJ = some rr) : xMi l κ yX3_has cX3_has 2 (some .boolean) (xR 0 0 0) [.ref (xAd κ (26 * wa + 21)), .int x1] (upA wA wa (uP, uC, uD, uJ, ur, ut, ud, ug), wY) (upA wA wa (uP, uC, uD, uJ, ur, ut, ud, ug), wY) rr := by
  unfold f_X3_has at hf
  refine xMi_of pn_X3 (Nat.le_of_ble_eq_true rfl) ⟨rfl, rfl⟩ ?_
  intro A p e s m args below meth c ls Q hc hw hl K
  have hc : xC κ A p s m args meth c cX3_has RX3 2 (some .boolean) := hc
  have hx := hc.1.1
  have hb := hc.1.2.1
  have hl : lv_has ls 2 [(0, .ref (xAd κ (26 * wa + 21))), (1, .int x1)] := hl
  refine lv_iload_n hx hb dX3_has_0 rfl (lv_at hl 1 rfl) ?_
  refine lv_if_lt (tgt := 16) hx hb dX3_has_1 (by decide) (fun c1 => ?_) (fun c1 => ?_)
  · have hf := xif_t c1 hf
    refine lv_iconst (v := 0) hx hb dX3_has_16 (by decide) ?_
    cases hf
    exact K _ _ _ _ dX3_has_17 rfl hw
  · have hf := xif_f c1 hf
    refine lv_iload_n hx hb dX3_has_4 rfl (lv_at hl 1 rfl) ?_
    refine lv_aload_n hx hb dX3_has_5 rfl (lv_at hl 0 rfl) ?_
    refine x_get (v := .int uJ.1) hc hw (ca_21 ha) fX3_9 rfl dX3_has_6 ?_
    refine lv_icmp_ge (tgt := 16) hx hb dX3_has_9 (by decide) (fun c2 => ?_) (fun c2 => ?_)
    · have hf := xif_t c2 hf
      refine lv_iconst (v := 0) hx hb dX3_has_16 (by decide) ?_
      cases hf
      exact K _ _ _ _ dX3_has_17 rfl hw
    · have hf := xif_f c2 hf
      refine lv_iconst (v := 1) hx hb dX3_has_12 (by decide) ?_
      refine lv_goto (tgt := 17) hx hb dX3_has_13 (by decide) ?_
      cases hf
      exact K _ _ _ _ dX3_has_17 rfl hw
def f_X4_addOne (x1 : Int32) (x2 : Int32) (uP : sPar) : Option (Int32 × sPar) :=
  if uP.1 < 6 then (xk (xin uP.1 6) (xk (xin uP.1 6) (xk (xin uP.1 6) (xk (xin uP.1 6) (xk (xin uP.1 6) (xk (xin uP.1 6) (some (uP.1, ((uP.1 + 1), (upd uP.2.1 uP.1.toNatClampNeg x1), (upd uP.2.2.1 uP.1.toNatClampNeg x2), (vp_updL uP.2.2.2.1 uP.1.toNatClampNeg 0), (vp_updL uP.2.2.2.2.1 uP.1.toNatClampNeg 0), (vp_updL uP.2.2.2.2.2.1 uP.1.toNatClampNeg 0), (vp_updL uP.2.2.2.2.2.2 uP.1.toNatClampNeg 0)))))))))) else (some ((-1), uP))
set_option maxHeartbeats 4000000 in
set_option maxRecDepth 100000 in
theorem m_X4_addOne {l : Launch} {κ : xKt} {wA : Nat → sAcc} {wa : Nat} {wY : sTxt × sRng × sMai × sRef × sOut} (ha : wa < 9)  {x1 : Int32} {x2 : Int32} {uP : sPar} {uC : sCla} {uD : sDeb} {uJ : sJou} {ur : xF32} {ut : xF32} {ud : Int32} {ug : Int32} {rr : Int32} {yP : sPar} (hf : f_X4_addOne x1 x2 uP = some (rr, yP)) : xMi l κ yX4_addOne cX4_addOne 4 (some .int) (xR 0 0 0) [.ref (xAd κ (26 * wa + 1)), .int x1, .int x2] (upA wA wa (uP, uC, uD, uJ, ur, ut, ud, ug), wY) (upA wA wa (yP, uC, uD, uJ, ur, ut, ud, ug), wY) rr := by
  unfold f_X4_addOne at hf
  refine xMi_of pn_X4 (Nat.le_of_ble_eq_true rfl) ⟨rfl, rfl⟩ ?_
  intro A p e s m args below meth c ls Q hc hw hl K
  have hc : xC κ A p s m args meth c cX4_addOne RX4 4 (some .int) := hc
  have hx := hc.1.1
  have hb := hc.1.2.1
  have hl : lv_has ls 4 [(0, .ref (xAd κ (26 * wa + 1))), (1, .int x1), (2, .int x2)] := hl
  refine lv_aload_n hx hb dX4_addOne_0 rfl (lv_at hl 0 rfl) ?_
  refine x_get (v := .int uP.1) hc hw (ca_1 ha) fX4_9 rfl dX4_addOne_1 ?_
  refine lv_istore_n (lv' := [(3, .int uP.1), (0, .ref (xAd κ (26 * wa + 1))), (1, .int x1), (2, .int x2)]) hx hb dX4_addOne_4 rfl hl (by decide) rfl (fun ls hl => ?_)
  refine lv_iload_n hx hb dX4_addOne_5 rfl (lv_at hl 0 rfl) ?_
  refine lv_bipush (v := 6) hx hb dX4_addOne_6 (by decide) ?_
  refine lv_icmp_lt (tgt := 13) hx hb dX4_addOne_8 (by decide) (fun c1 => ?_) (fun c1 => ?_)
  · have hf := xif_t c1 hf
    refine lv_aload_n hx hb dX4_addOne_13 rfl (lv_at hl 1 rfl) ?_
    refine x_get (v := .ref (xAd κ (26 * wa + 2))) hc hw (ca_1 ha) fX4_15 rfl dX4_addOne_14 ?_
    refine lv_iload_n hx hb dX4_addOne_17 rfl (lv_at hl 0 rfl) ?_
    refine lv_iload_n hx hb dX4_addOne_18 rfl (lv_at hl 2 rfl) ?_
    obtain ⟨k2, hf⟩ := xk_of hf
    refine x_iast (n := 6) (f := uP.2.1) (σ' := (upA wA wa ((uP.1, (upd uP.2.1 uP.1.toNatClampNeg x1), uP.2.2.1, uP.2.2.2.1, uP.2.2.2.2.1, uP.2.2.2.2.2.1, uP.2.2.2.2.2.2), uC, uD, uJ, ur, ut, ud, ug), wY)) hc hw (ca_2 ha) k2 (sa_0_1 ha) dX4_addOne_19 (fun H locs hw => ?_)
    refine lv_aload_n hx hb dX4_addOne_20 rfl (lv_at hl 1 rfl) ?_
    refine x_get (v := .ref (xAd κ (26 * wa + 3))) hc hw (ca_1 ha) fX4_19 rfl dX4_addOne_21 ?_
    refine lv_iload_n hx hb dX4_addOne_24 rfl (lv_at hl 0 rfl) ?_
    refine lv_iload_n hx hb dX4_addOne_25 rfl (lv_at hl 3 rfl) ?_
    obtain ⟨k3, hf⟩ := xk_of hf
    refine x_iast (n := 6) (f := uP.2.2.1) (σ' := (upA wA wa ((uP.1, (upd uP.2.1 uP.1.toNatClampNeg x1), (upd uP.2.2.1 uP.1.toNatClampNeg x2), uP.2.2.2.1, uP.2.2.2.2.1, uP.2.2.2.2.2.1, uP.2.2.2.2.2.2), uC, uD, uJ, ur, ut, ud, ug), wY)) hc hw (ca_3 ha) k3 (sa_0_2 ha) dX4_addOne_26 (fun H locs hw => ?_)
    refine lv_aload_n hx hb dX4_addOne_27 rfl (lv_at hl 1 rfl) ?_
    refine x_get (v := .ref (xAd κ (26 * wa + 4))) hc hw (ca_1 ha) fX4_22 rfl dX4_addOne_28 ?_
    refine lv_iload_n hx hb dX4_addOne_31 rfl (lv_at hl 0 rfl) ?_
    refine lv_lconst (v := 0) hx hb dX4_addOne_32 (by decide) ?_
    obtain ⟨k4, hf⟩ := xk_of hf
    refine x_last (n := 6) (f := uP.2.2.2.1) (σ' := (upA wA wa ((uP.1, (upd uP.2.1 uP.1.toNatClampNeg x1), (upd uP.2.2.1 uP.1.toNatClampNeg x2), (vp_updL uP.2.2.2.1 uP.1.toNatClampNeg 0), uP.2.2.2.2.1, uP.2.2.2.2.2.1, uP.2.2.2.2.2.2), uC, uD, uJ, ur, ut, ud, ug), wY)) hc hw (ca_4 ha) k4 (sa_0_3 ha) dX4_addOne_33 (fun H locs hw => ?_)
    refine lv_aload_n hx hb dX4_addOne_34 rfl (lv_at hl 1 rfl) ?_
    refine x_get (v := .ref (xAd κ (26 * wa + 5))) hc hw (ca_1 ha) fX4_26 rfl dX4_addOne_35 ?_
    refine lv_iload_n hx hb dX4_addOne_38 rfl (lv_at hl 0 rfl) ?_
    refine lv_lconst (v := 0) hx hb dX4_addOne_39 (by decide) ?_
    obtain ⟨k5, hf⟩ := xk_of hf
    refine x_last (n := 6) (f := uP.2.2.2.2.1) (σ' := (upA wA wa ((uP.1, (upd uP.2.1 uP.1.toNatClampNeg x1), (upd uP.2.2.1 uP.1.toNatClampNeg x2), (vp_updL uP.2.2.2.1 uP.1.toNatClampNeg 0), (vp_updL uP.2.2.2.2.1 uP.1.toNatClampNeg 0), uP.2.2.2.2.2.1, uP.2.2.2.2.2.2), uC, uD, uJ, ur, ut, ud, ug), wY)) hc hw (ca_5 ha) k5 (sa_0_4 ha) dX4_addOne_40 (fun H locs hw => ?_)
    refine lv_aload_n hx hb dX4_addOne_41 rfl (lv_at hl 1 rfl) ?_
    refine x_get (v := .ref (xAd κ (26 * wa + 6))) hc hw (ca_1 ha) fX4_29 rfl dX4_addOne_42 ?_
    refine lv_iload_n hx hb dX4_addOne_45 rfl (lv_at hl 0 rfl) ?_
    refine lv_lconst (v := 0) hx hb dX4_addOne_46 (by decide) ?_
    obtain ⟨k6, hf⟩ := xk_of hf
    refine x_last (n := 6) (f := uP.2.2.2.2.2.1) (σ' := (upA wA wa ((uP.1, (upd uP.2.1 uP.1.toNatClampNeg x1), (upd uP.2.2.1 uP.1.toNatClampNeg x2), (vp_updL uP.2.2.2.1 uP.1.toNatClampNeg 0), (vp_updL uP.2.2.2.2.1 uP.1.toNatClampNeg 0), (vp_updL uP.2.2.2.2.2.1 uP.1.toNatClampNeg 0), uP.2.2.2.2.2.2), uC, uD, uJ, ur, ut, ud, ug), wY)) hc hw (ca_6 ha) k6 (sa_0_5 ha) dX4_addOne_47 (fun H locs hw => ?_)
    refine lv_aload_n hx hb dX4_addOne_48 rfl (lv_at hl 1 rfl) ?_
    refine x_get (v := .ref (xAd κ (26 * wa + 7))) hc hw (ca_1 ha) fX4_32 rfl dX4_addOne_49 ?_
    refine lv_iload_n hx hb dX4_addOne_52 rfl (lv_at hl 0 rfl) ?_
    refine lv_lconst (v := 0) hx hb dX4_addOne_53 (by decide) ?_
    obtain ⟨k7, hf⟩ := xk_of hf
    refine x_last (n := 6) (f := uP.2.2.2.2.2.2) (σ' := (upA wA wa ((uP.1, (upd uP.2.1 uP.1.toNatClampNeg x1), (upd uP.2.2.1 uP.1.toNatClampNeg x2), (vp_updL uP.2.2.2.1 uP.1.toNatClampNeg 0), (vp_updL uP.2.2.2.2.1 uP.1.toNatClampNeg 0), (vp_updL uP.2.2.2.2.2.1 uP.1.toNatClampNeg 0), (vp_updL uP.2.2.2.2.2.2 uP.1.toNatClampNeg 0)), uC, uD, uJ, ur, ut, ud, ug), wY)) hc hw (ca_7 ha) k7 (sa_0_6 ha) dX4_addOne_54 (fun H locs hw => ?_)
    refine lv_aload_n hx hb dX4_addOne_55 rfl (lv_at hl 1 rfl) ?_
    refine lv_dup hx hb dX4_addOne_56 rfl ?_
    refine x_get (v := .int uP.1) hc hw (ca_1 ha) fX4_9 rfl dX4_addOne_57 ?_
    refine lv_iconst (v := 1) hx hb dX4_addOne_60 (by decide) ?_
    refine lv_iadd hx hb dX4_addOne_61 ?_
    refine x_put (σ' := (upA wA wa (((uP.1 + 1), (upd uP.2.1 uP.1.toNatClampNeg x1), (upd uP.2.2.1 uP.1.toNatClampNeg x2), (vp_updL uP.2.2.2.1 uP.1.toNatClampNeg 0), (vp_updL uP.2.2.2.2.1 uP.1.toNatClampNeg 0), (vp_updL uP.2.2.2.2.2.1 uP.1.toNatClampNeg 0), (vp_updL uP.2.2.2.2.2.2 uP.1.toNatClampNeg 0)), uC, uD, uJ, ur, ut, ud, ug), wY)) hc hw (ca_1 ha) fX4_9 rfl rfl (Nat.le_of_ble_eq_true rfl) (sa_0_0 ha) dX4_addOne_62 (fun H locs hw => ?_)
    refine lv_iload_n hx hb dX4_addOne_65 rfl (lv_at hl 0 rfl) ?_
    cases hf
    exact K _ _ _ _ dX4_addOne_66 rfl hw
  · have hf := xif_f c1 hf
    refine lv_iconst (v := (-1)) hx hb dX4_addOne_11 (by decide) ?_
    cases hf
    exact K _ _ _ _ dX4_addOne_12 rfl hw
