def f_X4_has (x1 : Int32) (uP : sPar) : Option Int32 :=
  if x1 < 0 then (some 0) else (if uP.1 ≤ x1 then (some 0) else (some 1))
set_option maxHeartbeats 4000000 in
set_option maxRecDepth 100000 in
theorem m_X4_has {l : Launch} {κ : xKt} {wA : Nat → sAcc} {wa : Nat} {wY : sTxt × sRng × sMai × sRef × sOut} (ha : wa < 9)  {x1 : Int32} {uP : sPar} {uC : sCla} {uD : sDeb} {uJ : sJou} {ur : xF32} {ut : xF32} {ud : Int32} {ug : Int32} {rr : Int32} (hf : f_X4_has x1 uP = some rr) : xMi l κ yX4_has cX4_has 2 (some .boolean) (xR 0 0 0) [.ref (xAd κ (26 * wa + 1)), .int x1] (upA wA wa (uP, uC, uD, uJ, ur, ut, ud, ug), wY) (upA wA wa (uP, uC, uD, uJ, ur, ut, ud, ug), wY) rr := by
  unfold f_X4_has at hf
  refine xMi_of pn_X4 (Nat.le_of_ble_eq_true rfl) ⟨rfl, rfl⟩ ?_
  intro A p e s m args below meth c ls Q hc hw hl K
  have hc : xC κ A p s m args meth c cX4_has RX4 2 (some .boolean) := hc
  have hx := hc.1.1
  have hb := hc.1.2.1
  have hl : lv_has ls 2 [(0, .ref (xAd κ (26 * wa + 1))), (1, .int x1)] := hl
  refine lv_iload_n hx hb dX4_has_0 rfl (lv_at hl 1 rfl) ?_
  refine lv_if_lt (tgt := 16) hx hb dX4_has_1 (by decide) (fun c1 => ?_) (fun c1 => ?_)
  · have hf := xif_t c1 hf
    refine lv_iconst (v := 0) hx hb dX4_has_16 (by decide) ?_
    cases hf
    exact K _ _ _ _ dX4_has_17 rfl hw
  · have hf := xif_f c1 hf
    refine lv_iload_n hx hb dX4_has_4 rfl (lv_at hl 1 rfl) ?_
    refine lv_aload_n hx hb dX4_has_5 rfl (lv_at hl 0 rfl) ?_
    refine x_get (v := .int uP.1) hc hw (ca_1 ha) fX4_9 rfl dX4_has_6 ?_
    refine lv_icmp_ge (tgt := 16) hx hb dX4_has_9 (by decide) (fun c2 => ?_) (fun c2 => ?_)
    · have hf := xif_t c2 hf
      refine lv_iconst (v := 0) hx hb dX4_has_16 (by decide) ?_
      cases hf
      exact K _ _ _ _ dX4_has_17 rfl hw
    · have hf := xif_f c2 hf
      refine lv_iconst (v := 1) hx hb dX4_has_12 (by decide) ?_
      refine lv_goto (tgt := 17) hx hb dX4_has_13 (by decide) ?_
      cases hf
      exact K _ _ _ _ dX4_has_17 rfl hw
def f_X4_hasBoth (x1 : Int32) (x2 : Int32) (uP : sPar) : Option Int32 :=
  xb1 (f_X4_has x1 uP) fun v1 => (if v1 = 0 then (some 0) else (xb1 (f_X4_has x2 uP) fun v4 => (if v4 = 0 then (some 0) else (some 1))))
set_option maxHeartbeats 4000000 in
set_option maxRecDepth 100000 in
theorem m_X4_hasBoth {l : Launch} {κ : xKt} {wA : Nat → sAcc} {wa : Nat} {wY : sTxt × sRng × sMai × sRef × sOut} (ha : wa < 9)  {x1 : Int32} {x2 : Int32} {uP : sPar} {uC : sCla} {uD : sDeb} {uJ : sJou} {ur : xF32} {ut : xF32} {ud : Int32} {ug : Int32} {rr : Int32} (hf : f_X4_hasBoth x1 x2 uP = some rr) : xMi l κ yX4_hasBoth cX4_hasBoth 3 (some .boolean) (xR 1 0 0) [.ref (xAd κ (26 * wa + 1)), .int x1, .int x2] (upA wA wa (uP, uC, uD, uJ, ur, ut, ud, ug), wY) (upA wA wa (uP, uC, uD, uJ, ur, ut, ud, ug), wY) rr := by
  unfold f_X4_hasBoth at hf
  refine xMi_of pn_X4 (Nat.le_of_ble_eq_true rfl) ⟨rfl, rfl⟩ ?_
  intro A p e s m args below meth c ls Q hc hw hl K
  have hc : xC κ A p s m args meth c cX4_hasBoth RX4 3 (some .boolean) := hc
  have hx := hc.1.1
  have hb := hc.1.2.1
  have hl : lv_has ls 3 [(0, .ref (xAd κ (26 * wa + 1))), (1, .int x1), (2, .int x2)] := hl
  refine lv_aload_n hx hb dX4_hasBoth_0 rfl (lv_at hl 0 rfl) ?_
  refine lv_iload_n hx hb dX4_hasBoth_1 rfl (lv_at hl 1 rfl) ?_
  obtain ⟨v1, h2, hf⟩ := xb1_of hf
  refine x_calliV (As := [.int x1]) (rest := []) (σ' := (upA wA wa (uP, uC, uD, uJ, ur, ut, ud, ug), wY)) hc hw hl.1 (m_X4_has ha h2) kX4_41 (ca_1 ha) rfl rfl ⟨rfl, rfl⟩ ⟨Nat.le_of_ble_eq_true rfl, Nat.le_of_ble_eq_true rfl⟩ ⟨Nat.zero_le _, Nat.zero_le _⟩ (Nat.le_of_ble_eq_true rfl) dX4_hasBoth_2 (fun H locs hw => ?_)
  refine lv_if_eq (tgt := 20) hx hb dX4_hasBoth_5 (by decide) (fun c3 => ?_) (fun c3 => ?_)
  · have hf := xif_t c3 hf
    refine lv_iconst (v := 0) hx hb dX4_hasBoth_20 (by decide) ?_
    cases hf
    exact K _ _ _ _ dX4_hasBoth_21 rfl hw
  · have hf := xif_f c3 hf
    refine lv_aload_n hx hb dX4_hasBoth_8 rfl (lv_at hl 0 rfl) ?_
    refine lv_iload_n hx hb dX4_hasBoth_9 rfl (lv_at hl 2 rfl) ?_
    obtain ⟨v4, h5, hf⟩ := xb1_of hf
    refine x_calliV (As := [.int x2]) (rest := []) (σ' := (upA wA wa (uP, uC, uD, uJ, ur, ut, ud, ug), wY)) hc hw hl.1 (m_X4_has ha h5) kX4_41 (ca_1 ha) rfl rfl ⟨rfl, rfl⟩ ⟨Nat.le_of_ble_eq_true rfl, Nat.le_of_ble_eq_true rfl⟩ ⟨Nat.zero_le _, Nat.zero_le _⟩ (Nat.le_of_ble_eq_true rfl) dX4_hasBoth_10 (fun H locs hw => ?_)
    refine lv_if_eq (tgt := 20) hx hb dX4_hasBoth_13 (by decide) (fun c6 => ?_) (fun c6 => ?_)
    · have hf := xif_t c6 hf
      refine lv_iconst (v := 0) hx hb dX4_hasBoth_20 (by decide) ?_
      cases hf
      exact K _ _ _ _ dX4_hasBoth_21 rfl hw
    · have hf := xif_f c6 hf
      refine lv_iconst (v := 1) hx hb dX4_hasBoth_16 (by decide) ?_
      refine lv_goto (tgt := 21) hx hb dX4_hasBoth_17 (by decide) ?_
      cases hf
      exact K _ _ _ _ dX4_hasBoth_21 rfl hw
def f_X4_shortOf (x1 : Int32) (uP : sPar) : Option Int64 :=
  xk (xin x1 6) (xk (xin x1 6) (some ((xmaxL 0 ((uP.2.2.2.1 x1.toNatClampNeg) - (uP.2.2.2.2.1 x1.toNatClampNeg))))))
set_option maxHeartbeats 4000000 in
set_option maxRecDepth 100000 in
theorem m_X4_shortOf {l : Launch} {κ : xKt} {wA : Nat → sAcc} {wa : Nat} {wY : sTxt × sRng × sMai × sRef × sOut} (ha : wa < 9)  {x1 : Int32} {uP : sPar} {uC : sCla} {uD : sDeb} {uJ : sJou} {ur : xF32} {ut : xF32} {ud : Int32} {ug : Int32} {rr : Int64} (hf : f_X4_shortOf x1 uP = some rr) : xMl l κ yX4_shortOf cX4_shortOf 2 (some .long) (xR 0 0 0) [.ref (xAd κ (26 * wa + 1)), .int x1] (upA wA wa (uP, uC, uD, uJ, ur, ut, ud, ug), wY) (upA wA wa (uP, uC, uD, uJ, ur, ut, ud, ug), wY) rr := by
  unfold f_X4_shortOf at hf
  refine xMl_of pn_X4 (Nat.le_of_ble_eq_true rfl) ⟨rfl, rfl⟩ ?_
  intro A p e s m args below meth c ls Q hc hw hl K
  have hc : xC κ A p s m args meth c cX4_shortOf RX4 2 (some .long) := hc
  have hx := hc.1.1
  have hb := hc.1.2.1
  have hl : lv_has ls 2 [(0, .ref (xAd κ (26 * wa + 1))), (1, .int x1)] := hl
  refine lv_lconst (v := 0) hx hb dX4_shortOf_0 (by decide) ?_
  refine lv_aload_n hx hb dX4_shortOf_1 rfl (lv_at hl 0 rfl) ?_
  refine x_get (v := .ref (xAd κ (26 * wa + 4))) hc hw (ca_1 ha) fX4_22 rfl dX4_shortOf_2 ?_
  refine lv_iload_n hx hb dX4_shortOf_5 rfl (lv_at hl 1 rfl) ?_
  obtain ⟨k1, hf⟩ := xk_of hf
  refine x_lald (n := 6) (f := uP.2.2.2.1) hc hw (ca_4 ha) k1 dX4_shortOf_6 ?_
  refine lv_aload_n hx hb dX4_shortOf_7 rfl (lv_at hl 0 rfl) ?_
  refine x_get (v := .ref (xAd κ (26 * wa + 5))) hc hw (ca_1 ha) fX4_26 rfl dX4_shortOf_8 ?_
  refine lv_iload_n hx hb dX4_shortOf_11 rfl (lv_at hl 1 rfl) ?_
  obtain ⟨k2, hf⟩ := xk_of hf
  refine x_lald (n := 6) (f := uP.2.2.2.2.1) hc hw (ca_5 ha) k2 dX4_shortOf_12 ?_
  refine lv_lsub hx hb dX4_shortOf_13 ?_
  refine x_maxL hc hl.1 mw_X4_45 ⟨Nat.le_of_ble_eq_true rfl, Nat.le_of_ble_eq_true rfl⟩ ⟨Nat.zero_le _, Nat.zero_le _⟩ dX4_shortOf_14 ?_
  cases hf
  exact K _ _ _ _ dX4_shortOf_17 hw
def f_X4_weightOn_4 (fu : Nat) (uP : sPar) : Nat → (Int32) → (Int32) → (Int32) → Option Int32
  | 0, _, _, _ => none
  | n + 1, x1, x2, x3 => if uP.1 ≤ x3 then (some x2) else (xk (xin x3 6) (if (uP.2.1 x3.toNatClampNeg) = x1 then (xk (xin x3 6) (f_X4_weightOn_4 fu uP n x1 (x2 + (uP.2.2.1 x3.toNatClampNeg)) (x3 + 1))) else (f_X4_weightOn_4 fu uP n x1 (x2 + 0) (x3 + 1))))
def f_X4_weightOn (fu : Nat) (x1 : Int32) (uP : sPar) : Option Int32 :=
  f_X4_weightOn_4 fu uP fu x1 0 0
set_option maxHeartbeats 4000000 in
set_option maxRecDepth 100000 in
theorem l_X4_weightOn_4 {l : Launch} {κ : xKt} {wA : Nat → sAcc} {wa : Nat} {wY : sTxt × sRng × sMai × sRef × sOut} (ha : wa < 9) {fu : Nat} {uP : sPar} {uC : sCla} {uD : sDeb} {uJ : sJou} {ur : xF32} {ut : xF32} {ud : Int32} {ug : Int32} {A : Nat → Prop} {p : Program} {e : Env} {s : State} {m : MethodId} {args : Array Value} {below : List Frame} {meth : Method} {c : Code} {Q : State → Prop} {rr : Int32}
    (hc : xC κ A p s m args meth c cX4_weightOn RX4 4 (some .int))
    (K : ∀ (pc : Nat) (ls : Array Slot) (H : Heap) (locs : List Loc), decode cX4_weightOn pc = .ok (.ireturn, 1) → narrow .int (.int rr) = .int rr → xW κ A s (upA wA wa (uP, uC, uD, uJ, ur, ut, ud, ug), wY) H locs → W p l e (xR 0 0 0) s m args below meth c H locs 0 0 Q (F0 m pc ls [.int rr])) :
    ∀ (n : Nat) (x1 : Int32) (x2 : Int32) (x3 : Int32) (H : Heap) (locs : List Loc) (ls : Array Slot), f_X4_weightOn_4 fu uP n x1 x2 x3 = some rr → xW κ A s (upA wA wa (uP, uC, uD, uJ, ur, ut, ud, ug), wY) H locs → lv_has ls 4 [(0, .ref (xAd κ (26 * wa + 1))), (1, .int x1), (2, .int x2), (3, .int x3)] → W p l e (xR 0 0 0) s m args below meth c H locs 0 0 Q (F0 m 4 ls []) := by
  have hx := hc.1.1
  have hb := hc.1.2.1
  intro n
  induction n with
  | zero =>
    intro x1 x2 x3 H locs ls hf
    rw [f_X4_weightOn_4] at hf
    cases hf
  | succ n hi =>
    intro x1 x2 x3 H locs ls hf hw hl
    rw [f_X4_weightOn_4] at hf
    refine lv_iload_n hx hb dX4_weightOn_4 rfl (lv_at hl 3 rfl) ?_
    refine lv_aload_n hx hb dX4_weightOn_5 rfl (lv_at hl 0 rfl) ?_
    refine x_get (v := .int uP.1) hc hw (ca_1 ha) fX4_9 rfl dX4_weightOn_6 ?_
    refine lv_icmp_ge (tgt := 41) hx hb dX4_weightOn_9 (by decide) (fun c1 => ?_) (fun c1 => ?_)
    · have hf := xif_t c1 hf
      refine lv_iload_n hx hb dX4_weightOn_41 rfl (lv_at hl 2 rfl) ?_
      cases hf
      exact K _ _ _ _ dX4_weightOn_42 rfl hw
    · have hf := xif_f c1 hf
      refine lv_iload_n hx hb dX4_weightOn_12 rfl (lv_at hl 2 rfl) ?_
      refine lv_aload_n hx hb dX4_weightOn_13 rfl (lv_at hl 0 rfl) ?_
      refine x_get (v := .ref (xAd κ (26 * wa + 2))) hc hw (ca_1 ha) fX4_15 rfl dX4_weightOn_14 ?_
      refine lv_iload_n hx hb dX4_weightOn_17 rfl (lv_at hl 3 rfl) ?_
      obtain ⟨k2, hf⟩ := xk_of hf
      refine x_iald (n := 6) (f := uP.2.1) hc hw (ca_2 ha) k2 dX4_weightOn_18 ?_
      refine lv_iload_n hx hb dX4_weightOn_19 rfl (lv_at hl 1 rfl) ?_
      refine lv_icmp_ne (tgt := 32) hx hb dX4_weightOn_20 (by decide) (fun c3 => ?_) (fun c3 => ?_)
      · have hf := xif_f c3 hf
        refine lv_iconst (v := 0) hx hb dX4_weightOn_32 (by decide) ?_
        refine lv_iadd hx hb dX4_weightOn_33 ?_
        refine lv_istore_n (lv' := [(2, .int (x2 + 0)), (0, .ref (xAd κ (26 * wa + 1))), (1, .int x1), (3, .int x3)]) hx hb dX4_weightOn_34 rfl hl (by decide) rfl (fun ls hl => ?_)
        refine lv_iinc (v := (x3 + 1)) (lv' := [(3, .int (x3 + 1)), (2, .int (x2 + 0)), (0, .ref (xAd κ (26 * wa + 1))), (1, .int x1)]) hx hb dX4_weightOn_35 hl (k := 3) rfl rfl (by decide) rfl (fun ls hl => ?_)
        refine lv_goto (tgt := 4) hx hb dX4_weightOn_38 (by decide) ?_
        exact hi _ _ _ _ _ _ hf hw (lv_sub hl [2, 3, 1, 0] rfl)
      · have hf := xif_t c3 hf
        refine lv_aload_n hx hb dX4_weightOn_23 rfl (lv_at hl 0 rfl) ?_
        refine x_get (v := .ref (xAd κ (26 * wa + 3))) hc hw (ca_1 ha) fX4_19 rfl dX4_weightOn_24 ?_
        refine lv_iload_n hx hb dX4_weightOn_27 rfl (lv_at hl 3 rfl) ?_
        obtain ⟨k4, hf⟩ := xk_of hf
        refine x_iald (n := 6) (f := uP.2.2.1) hc hw (ca_3 ha) k4 dX4_weightOn_28 ?_
        refine lv_goto (tgt := 33) hx hb dX4_weightOn_29 (by decide) ?_
        refine lv_iadd hx hb dX4_weightOn_33 ?_
        refine lv_istore_n (lv' := [(2, .int (x2 + (uP.2.2.1 x3.toNatClampNeg))), (0, .ref (xAd κ (26 * wa + 1))), (1, .int x1), (3, .int x3)]) hx hb dX4_weightOn_34 rfl hl (by decide) rfl (fun ls hl => ?_)
        refine lv_iinc (v := (x3 + 1)) (lv' := [(3, .int (x3 + 1)), (2, .int (x2 + (uP.2.2.1 x3.toNatClampNeg))), (0, .ref (xAd κ (26 * wa + 1))), (1, .int x1)]) hx hb dX4_weightOn_35 hl (k := 3) rfl rfl (by decide) rfl (fun ls hl => ?_)
        refine lv_goto (tgt := 4) hx hb dX4_weightOn_38 (by decide) ?_
        exact hi _ _ _ _ _ _ hf hw (lv_sub hl [2, 3, 1, 0] rfl)
set_option maxHeartbeats 4000000 in
set_option maxRecDepth 100000 in
theorem m_X4_weightOn {l : Launch} {κ : xKt} {wA : Nat → sAcc} {wa : Nat} {wY : sTxt × sRng × sMai × sRef × sOut} (ha : wa < 9) {fu : Nat} {x1 : Int32} {uP : sPar} {uC : sCla} {uD : sDeb} {uJ : sJou} {ur : xF32} {ut : xF32} {ud : Int32} {ug : Int32} {rr : Int32} (hf : f_X4_weightOn fu x1 uP = some rr) : xMi l κ yX4_weightOn cX4_weightOn 4 (some .int) (xR 0 0 0) [.ref (xAd κ (26 * wa + 1)), .int x1] (upA wA wa (uP, uC, uD, uJ, ur, ut, ud, ug), wY) (upA wA wa (uP, uC, uD, uJ, ur, ut, ud, ug), wY) rr := by
  unfold f_X4_weightOn at hf
  refine xMi_of pn_X4 (Nat.le_of_ble_eq_true rfl) ⟨rfl, rfl⟩ ?_
  intro A p e s m args below meth c ls Q hc hw hl K
  have hc : xC κ A p s m args meth c cX4_weightOn RX4 4 (some .int) := hc
  have hx := hc.1.1
  have hb := hc.1.2.1
  have hl : lv_has ls 4 [(0, .ref (xAd κ (26 * wa + 1))), (1, .int x1)] := hl
  refine lv_iconst (v := 0) hx hb dX4_weightOn_0 (by decide) ?_
  refine lv_istore_n (lv' := [(2, .int 0), (0, .ref (xAd κ (26 * wa + 1))), (1, .int x1)]) hx hb dX4_weightOn_1 rfl hl (by decide) rfl (fun ls hl => ?_)
  refine lv_iconst (v := 0) hx hb dX4_weightOn_2 (by decide) ?_
  refine lv_istore_n (lv' := [(3, .int 0), (2, .int 0), (0, .ref (xAd κ (26 * wa + 1))), (1, .int x1)]) hx hb dX4_weightOn_3 rfl hl (by decide) rfl (fun ls hl => ?_)
  exact l_X4_weightOn_4 ha hc K fu _ _ _ _ _ _ hf hw (lv_sub hl [2, 3, 1, 0] rfl)
def f_X4_partOf_32 (fu : Nat) (uP : sPar) : Nat → (Int64) → (Int32) → (Int32) → (Int32) → (Int64) → (Int32) → (Int32) → Option Int64
  | 0, _, _, _, _, _, _, _ => none
  | n + 1, x1, x3, x4, x5, x6, x8, x9 => if uP.1 ≤ x9 then (xk (xin x3 6) (xk (xnzl x5.toInt64) (if x6 ≤ x8.toInt64 then (some ((((x1 * (uP.2.2.1 x3.toNatClampNeg).toInt64) / x5.toInt64) + 0))) else (some ((((x1 * (uP.2.2.1 x3.toNatClampNeg).toInt64) / x5.toInt64) + 1)))))) else (xk (xin x9 6) (if (uP.2.1 x9.toNatClampNeg) = x4 then (xk (xin x9 6) (xk (xnzl x5.toInt64) (if x3 ≤ x9 then (f_X4_partOf_32 fu uP n x1 x3 x4 x5 (x6 - ((x1 * (uP.2.2.1 x9.toNatClampNeg).toInt64) / x5.toInt64)) (x8 + 0) (x9 + 1)) else (f_X4_partOf_32 fu uP n x1 x3 x4 x5 (x6 - ((x1 * (uP.2.2.1 x9.toNatClampNeg).toInt64) / x5.toInt64)) (x8 + 1) (x9 + 1))))) else (f_X4_partOf_32 fu uP n x1 x3 x4 x5 x6 x8 (x9 + 1))))
def f_X4_partOf (fu : Nat) (x1 : Int64) (x3 : Int32) (uP : sPar) : Option Int64 :=
  xk (xin x3 6) (xb1 (f_X4_weightOn fu (uP.2.1 x3.toNatClampNeg) uP) fun v2 => (if 0 < v2 then (f_X4_partOf_32 fu uP fu x1 x3 (uP.2.1 x3.toNatClampNeg) v2 x1 0 0) else (some 0)))
set_option maxHeartbeats 4000000 in
set_option maxRecDepth 100000 in
theorem l_X4_partOf_32 {l : Launch} {κ : xKt} {wA : Nat → sAcc} {wa : Nat} {wY : sTxt × sRng × sMai × sRef × sOut} (ha : wa < 9) {fu : Nat} {uP : sPar} {uC : sCla} {uD : sDeb} {uJ : sJou} {ur : xF32} {ut : xF32} {ud : Int32} {ug : Int32} {A : Nat → Prop} {p : Program} {e : Env} {s : State} {m : MethodId} {args : Array Value} {below : List Frame} {meth : Method} {c : Code} {Q : State → Prop} {rr : Int64}
    (hc : xC κ A p s m args meth c cX4_partOf RX4 10 (some .long))
    (K : ∀ (pc : Nat) (ls : Array Slot) (H : Heap) (locs : List Loc), decode cX4_partOf pc = .ok (.lreturn, 1) → xW κ A s (upA wA wa (uP, uC, uD, uJ, ur, ut, ud, ug), wY) H locs → W p l e (xR 1 0 0) s m args below meth c H locs 0 0 Q (F0 m pc ls [.long rr])) :
    ∀ (n : Nat) (x1 : Int64) (x3 : Int32) (x4 : Int32) (x5 : Int32) (x6 : Int64) (x8 : Int32) (x9 : Int32) (H : Heap) (locs : List Loc) (ls : Array Slot), f_X4_partOf_32 fu uP n x1 x3 x4 x5 x6 x8 x9 = some rr → xW κ A s (upA wA wa (uP, uC, uD, uJ, ur, ut, ud, ug), wY) H locs → lv_has ls 10 [(0, .ref (xAd κ (26 * wa + 1))), (1, .long x1), (3, .int x3), (4, .int x4), (5, .int x5), (6, .long x6), (8, .int x8), (9, .int x9)] → W p l e (xR 1 0 0) s m args below meth c H locs 0 0 Q (F0 m 32 ls []) := by
  have hx := hc.1.1
  have hb := hc.1.2.1
  intro n
  induction n with
  | zero =>
    intro x1 x3 x4 x5 x6 x8 x9 H locs ls hf
    rw [f_X4_partOf_32] at hf
    cases hf
  | succ n hi =>
    intro x1 x3 x4 x5 x6 x8 x9 H locs ls hf hw hl
    rw [f_X4_partOf_32] at hf
    refine lv_iload hx hb dX4_partOf_32 (lv_at hl 7 rfl) ?_
    refine lv_aload_n hx hb dX4_partOf_34 rfl (lv_at hl 0 rfl) ?_
    refine x_get (v := .int uP.1) hc hw (ca_1 ha) fX4_9 rfl dX4_partOf_35 ?_
    refine lv_icmp_ge (tgt := 94) hx hb dX4_partOf_38 (by decide) (fun c5 => ?_) (fun c5 => ?_)
    · have hf := xif_t c5 hf
      refine lv_lload_n hx hb dX4_partOf_94 rfl (lv_at hl 1 rfl) ?_
      refine lv_aload_n hx hb dX4_partOf_95 rfl (lv_at hl 0 rfl) ?_
      refine x_get (v := .ref (xAd κ (26 * wa + 3))) hc hw (ca_1 ha) fX4_19 rfl dX4_partOf_96 ?_
      refine lv_iload_n hx hb dX4_partOf_99 rfl (lv_at hl 2 rfl) ?_
      obtain ⟨k6, hf⟩ := xk_of hf
      refine x_iald (n := 6) (f := uP.2.2.1) hc hw (ca_3 ha) k6 dX4_partOf_100 ?_
      refine lv_i2l (v := (uP.2.2.1 x3.toNatClampNeg).toInt64) hx hb dX4_partOf_101 rfl ?_
      refine lv_lmul hx hb dX4_partOf_102 ?_
      refine lv_iload hx hb dX4_partOf_103 (lv_at hl 4 rfl) ?_
      refine lv_i2l (v := x5.toInt64) hx hb dX4_partOf_105 rfl ?_
      obtain ⟨k7, hf⟩ := xk_of hf
      refine lv_ldiv hx hb dX4_partOf_106 (of_decide_eq_true k7) ?_
      refine lv_iload hx hb dX4_partOf_107 (lv_at hl 6 rfl) ?_
      refine lv_i2l (v := x8.toInt64) hx hb dX4_partOf_109 rfl ?_
      refine lv_lload hx hb dX4_partOf_110 (lv_at hl 5 rfl) ?_
      refine x_lcmp_ge (tgt := 120) hx hb dX4_partOf_112 dX4_partOf_113 (by decide) (fun c8 => ?_) (fun c8 => ?_)
      · have hf := xif_t c8 hf
        refine lv_iconst (v := 0) hx hb dX4_partOf_120 (by decide) ?_
        refine lv_i2l (v := 0) hx hb dX4_partOf_121 (by decide) ?_
        refine lv_ladd hx hb dX4_partOf_122 ?_
        cases hf
        exact K _ _ _ _ dX4_partOf_123 hw
      · have hf := xif_f c8 hf
        refine lv_iconst (v := 1) hx hb dX4_partOf_116 (by decide) ?_
        refine lv_goto (tgt := 121) hx hb dX4_partOf_117 (by decide) ?_
        refine lv_i2l (v := 1) hx hb dX4_partOf_121 (by decide) ?_
        refine lv_ladd hx hb dX4_partOf_122 ?_
        cases hf
        exact K _ _ _ _ dX4_partOf_123 hw
    · have hf := xif_f c5 hf
      refine lv_aload_n hx hb dX4_partOf_41 rfl (lv_at hl 0 rfl) ?_
      refine x_get (v := .ref (xAd κ (26 * wa + 2))) hc hw (ca_1 ha) fX4_15 rfl dX4_partOf_42 ?_
      refine lv_iload hx hb dX4_partOf_45 (lv_at hl 7 rfl) ?_
      obtain ⟨k9, hf⟩ := xk_of hf
      refine x_iald (n := 6) (f := uP.2.1) hc hw (ca_2 ha) k9 dX4_partOf_47 ?_
      refine lv_iload hx hb dX4_partOf_48 (lv_at hl 3 rfl) ?_
      refine lv_icmp_ne (tgt := 88) hx hb dX4_partOf_50 (by decide) (fun c10 => ?_) (fun c10 => ?_)
      · have hf := xif_f c10 hf
        refine lv_iinc (v := (x9 + 1)) (lv' := [(9, .int (x9 + 1)), (0, .ref (xAd κ (26 * wa + 1))), (1, .long x1), (3, .int x3), (4, .int x4), (5, .int x5), (6, .long x6), (8, .int x8)]) hx hb dX4_partOf_88 hl (k := 7) rfl rfl (by decide) rfl (fun ls hl => ?_)
        refine lv_goto (tgt := 32) hx hb dX4_partOf_91 (by decide) ?_
        exact hi _ _ _ _ _ _ _ _ _ _ hf hw (lv_sub hl [1, 2, 3, 4, 5, 6, 7, 0] rfl)
      · have hf := xif_t c10 hf
        refine lv_lload hx hb dX4_partOf_53 (lv_at hl 5 rfl) ?_
        refine lv_lload_n hx hb dX4_partOf_55 rfl (lv_at hl 1 rfl) ?_
        refine lv_aload_n hx hb dX4_partOf_56 rfl (lv_at hl 0 rfl) ?_
        refine x_get (v := .ref (xAd κ (26 * wa + 3))) hc hw (ca_1 ha) fX4_19 rfl dX4_partOf_57 ?_
        refine lv_iload hx hb dX4_partOf_60 (lv_at hl 7 rfl) ?_
        obtain ⟨k11, hf⟩ := xk_of hf
        refine x_iald (n := 6) (f := uP.2.2.1) hc hw (ca_3 ha) k11 dX4_partOf_62 ?_
        refine lv_i2l (v := (uP.2.2.1 x9.toNatClampNeg).toInt64) hx hb dX4_partOf_63 rfl ?_
        refine lv_lmul hx hb dX4_partOf_64 ?_
        refine lv_iload hx hb dX4_partOf_65 (lv_at hl 4 rfl) ?_
        refine lv_i2l (v := x5.toInt64) hx hb dX4_partOf_67 rfl ?_
        obtain ⟨k12, hf⟩ := xk_of hf
        refine lv_ldiv hx hb dX4_partOf_68 (of_decide_eq_true k12) ?_
        refine lv_lsub hx hb dX4_partOf_69 ?_
        refine lv_lstore (lv' := [(6, .long (x6 - ((x1 * (uP.2.2.1 x9.toNatClampNeg).toInt64) / x5.toInt64))), (0, .ref (xAd κ (26 * wa + 1))), (1, .long x1), (3, .int x3), (4, .int x4), (5, .int x5), (8, .int x8), (9, .int x9)]) hx hb dX4_partOf_70 hl (by decide) rfl (fun ls hl => ?_)
        refine lv_iload hx hb dX4_partOf_72 (lv_at hl 6 rfl) ?_
        refine lv_iload hx hb dX4_partOf_74 (lv_at hl 7 rfl) ?_
        refine lv_iload_n hx hb dX4_partOf_76 rfl (lv_at hl 3 rfl) ?_
        refine lv_icmp_ge (tgt := 84) hx hb dX4_partOf_77 (by decide) (fun c13 => ?_) (fun c13 => ?_)
        · have hf := xif_t c13 hf
          refine lv_iconst (v := 0) hx hb dX4_partOf_84 (by decide) ?_
          refine lv_iadd hx hb dX4_partOf_85 ?_
          refine lv_istore (lv' := [(8, .int (x8 + 0)), (6, .long (x6 - ((x1 * (uP.2.2.1 x9.toNatClampNeg).toInt64) / x5.toInt64))), (0, .ref (xAd κ (26 * wa + 1))), (1, .long x1), (3, .int x3), (4, .int x4), (5, .int x5), (9, .int x9)]) hx hb dX4_partOf_86 hl (by decide) rfl (fun ls hl => ?_)
          refine lv_iinc (v := (x9 + 1)) (lv' := [(9, .int (x9 + 1)), (8, .int (x8 + 0)), (6, .long (x6 - ((x1 * (uP.2.2.1 x9.toNatClampNeg).toInt64) / x5.toInt64))), (0, .ref (xAd κ (26 * wa + 1))), (1, .long x1), (3, .int x3), (4, .int x4), (5, .int x5)]) hx hb dX4_partOf_88 hl (k := 7) rfl rfl (by decide) rfl (fun ls hl => ?_)
          refine lv_goto (tgt := 32) hx hb dX4_partOf_91 (by decide) ?_
          exact hi _ _ _ _ _ _ _ _ _ _ hf hw (lv_sub hl [3, 4, 5, 6, 7, 2, 1, 0] rfl)
        · have hf := xif_f c13 hf
          refine lv_iconst (v := 1) hx hb dX4_partOf_80 (by decide) ?_
          refine lv_goto (tgt := 85) hx hb dX4_partOf_81 (by decide) ?_
          refine lv_iadd hx hb dX4_partOf_85 ?_
          refine lv_istore (lv' := [(8, .int (x8 + 1)), (6, .long (x6 - ((x1 * (uP.2.2.1 x9.toNatClampNeg).toInt64) / x5.toInt64))), (0, .ref (xAd κ (26 * wa + 1))), (1, .long x1), (3, .int x3), (4, .int x4), (5, .int x5), (9, .int x9)]) hx hb dX4_partOf_86 hl (by decide) rfl (fun ls hl => ?_)
          refine lv_iinc (v := (x9 + 1)) (lv' := [(9, .int (x9 + 1)), (8, .int (x8 + 1)), (6, .long (x6 - ((x1 * (uP.2.2.1 x9.toNatClampNeg).toInt64) / x5.toInt64))), (0, .ref (xAd κ (26 * wa + 1))), (1, .long x1), (3, .int x3), (4, .int x4), (5, .int x5)]) hx hb dX4_partOf_88 hl (k := 7) rfl rfl (by decide) rfl (fun ls hl => ?_)
          refine lv_goto (tgt := 32) hx hb dX4_partOf_91 (by decide) ?_
          exact hi _ _ _ _ _ _ _ _ _ _ hf hw (lv_sub hl [3, 4, 5, 6, 7, 2, 1, 0] rfl)
set_option maxHeartbeats 4000000 in
set_option maxRecDepth 100000 in
theorem m_X4_partOf {l : Launch} {κ : xKt} {wA : Nat → sAcc} {wa : Nat} {wY : sTxt × sRng × sMai × sRef × sOut} (ha : wa < 9) {fu : Nat} {x1 : Int64} {x3 : Int32} {uP : sPar} {uC : sCla} {uD : sDeb} {uJ : sJou} {ur : xF32} {ut : xF32} {ud : Int32} {ug : Int32} {rr : Int64} (hf : f_X4_partOf fu x1 x3 uP = some rr) : xMl l κ yX4_partOf cX4_partOf 10 (some .long) (xR 1 0 0) [.ref (xAd κ (26 * wa + 1)), .long x1, .int x3] (upA wA wa (uP, uC, uD, uJ, ur, ut, ud, ug), wY) (upA wA wa (uP, uC, uD, uJ, ur, ut, ud, ug), wY) rr := by
  unfold f_X4_partOf at hf
  refine xMl_of pn_X4 (Nat.le_of_ble_eq_true rfl) ⟨rfl, rfl⟩ ?_
  intro A p e s m args below meth c ls Q hc hw hl K
  have hc : xC κ A p s m args meth c cX4_partOf RX4 10 (some .long) := hc
  have hx := hc.1.1
  have hb := hc.1.2.1
  have hl : lv_has ls 10 [(0, .ref (xAd κ (26 * wa + 1))), (1, .long x1), (3, .int x3)] := hl
  refine lv_aload_n hx hb dX4_partOf_0 rfl (lv_at hl 0 rfl) ?_
  refine x_get (v := .ref (xAd κ (26 * wa + 2))) hc hw (ca_1 ha) fX4_15 rfl dX4_partOf_1 ?_
  refine lv_iload_n hx hb dX4_partOf_4 rfl (lv_at hl 2 rfl) ?_
  obtain ⟨k1, hf⟩ := xk_of hf
  refine x_iald (n := 6) (f := uP.2.1) hc hw (ca_2 ha) k1 dX4_partOf_5 ?_
  refine lv_istore (lv' := [(4, .int (uP.2.1 x3.toNatClampNeg)), (0, .ref (xAd κ (26 * wa + 1))), (1, .long x1), (3, .int x3)]) hx hb dX4_partOf_6 hl (by decide) rfl (fun ls hl => ?_)
  refine lv_aload_n hx hb dX4_partOf_8 rfl (lv_at hl 1 rfl) ?_
  refine lv_iload hx hb dX4_partOf_9 (lv_at hl 0 rfl) ?_
  obtain ⟨v2, h3, hf⟩ := xb1_of hf
  refine x_calliV (As := [.int (uP.2.1 x3.toNatClampNeg)]) (rest := []) (σ' := (upA wA wa (uP, uC, uD, uJ, ur, ut, ud, ug), wY)) hc hw hl.1 (m_X4_weightOn ha h3) kX4_51 (ca_1 ha) rfl rfl ⟨rfl, rfl⟩ ⟨Nat.le_of_ble_eq_true rfl, Nat.le_of_ble_eq_true rfl⟩ ⟨Nat.zero_le _, Nat.zero_le _⟩ (Nat.le_of_ble_eq_true rfl) dX4_partOf_11 (fun H locs hw => ?_)
  refine lv_istore (lv' := [(5, .int v2), (4, .int (uP.2.1 x3.toNatClampNeg)), (0, .ref (xAd κ (26 * wa + 1))), (1, .long x1), (3, .int x3)]) hx hb dX4_partOf_14 hl (by decide) rfl (fun ls hl => ?_)
  refine lv_iload hx hb dX4_partOf_16 (lv_at hl 0 rfl) ?_
  refine lv_if_gt (tgt := 23) hx hb dX4_partOf_18 (by decide) (fun c4 => ?_) (fun c4 => ?_)
  · have hf := xif_t c4 hf
    refine lv_lload_n hx hb dX4_partOf_23 rfl (lv_at hl 3 rfl) ?_
    refine lv_lstore (lv' := [(6, .long x1), (5, .int v2), (4, .int (uP.2.1 x3.toNatClampNeg)), (0, .ref (xAd κ (26 * wa + 1))), (1, .long x1), (3, .int x3)]) hx hb dX4_partOf_24 hl (by decide) rfl (fun ls hl => ?_)
    refine lv_iconst (v := 0) hx hb dX4_partOf_26 (by decide) ?_
    refine lv_istore (lv' := [(8, .int 0), (6, .long x1), (5, .int v2), (4, .int (uP.2.1 x3.toNatClampNeg)), (0, .ref (xAd κ (26 * wa + 1))), (1, .long x1), (3, .int x3)]) hx hb dX4_partOf_27 hl (by decide) rfl (fun ls hl => ?_)
    refine lv_iconst (v := 0) hx hb dX4_partOf_29 (by decide) ?_
    refine lv_istore (lv' := [(9, .int 0), (8, .int 0), (6, .long x1), (5, .int v2), (4, .int (uP.2.1 x3.toNatClampNeg)), (0, .ref (xAd κ (26 * wa + 1))), (1, .long x1), (3, .int x3)]) hx hb dX4_partOf_30 hl (by decide) rfl (fun ls hl => ?_)
    exact l_X4_partOf_32 ha hc K fu _ _ _ _ _ _ _ _ _ _ hf hw (lv_sub hl [5, 6, 7, 4, 3, 2, 1, 0] rfl)
  · have hf := xif_f c4 hf
    refine lv_lconst (v := 0) hx hb dX4_partOf_21 (by decide) ?_
    cases hf
    exact K _ _ _ _ dX4_partOf_22 hw
def f_X4_heldFor (x1 : Int32) (uP : sPar) : Option Int64 :=
  xk (xin x1 6) (xk (xin x1 6) (xk (xin x1 6) (some ((((uP.2.2.2.2.1 x1.toNatClampNeg) - (uP.2.2.2.2.2.1 x1.toNatClampNeg)) - (uP.2.2.2.2.2.2 x1.toNatClampNeg))))))
set_option maxHeartbeats 4000000 in
set_option maxRecDepth 100000 in
theorem m_X4_heldFor {l : Launch} {κ : xKt} {wA : Nat → sAcc} {wa : Nat} {wY : sTxt × sRng × sMai × sRef × sOut} (ha : wa < 9)  {x1 : Int32} {uP : sPar} {uC : sCla} {uD : sDeb} {uJ : sJou} {ur : xF32} {ut : xF32} {ud : Int32} {ug : Int32} {rr : Int64} (hf : f_X4_heldFor x1 uP = some rr) : xMl l κ yX4_heldFor cX4_heldFor 2 (some .long) (xR 0 0 0) [.ref (xAd κ (26 * wa + 1)), .int x1] (upA wA wa (uP, uC, uD, uJ, ur, ut, ud, ug), wY) (upA wA wa (uP, uC, uD, uJ, ur, ut, ud, ug), wY) rr := by
  unfold f_X4_heldFor at hf
  refine xMl_of pn_X4 (Nat.le_of_ble_eq_true rfl) ⟨rfl, rfl⟩ ?_
  intro A p e s m args below meth c ls Q hc hw hl K
  have hc : xC κ A p s m args meth c cX4_heldFor RX4 2 (some .long) := hc
  have hx := hc.1.1
  have hb := hc.1.2.1
  have hl : lv_has ls 2 [(0, .ref (xAd κ (26 * wa + 1))), (1, .int x1)] := hl
  refine lv_aload_n hx hb dX4_heldFor_0 rfl (lv_at hl 0 rfl) ?_
  refine x_get (v := .ref (xAd κ (26 * wa + 5))) hc hw (ca_1 ha) fX4_26 rfl dX4_heldFor_1 ?_
  refine lv_iload_n hx hb dX4_heldFor_4 rfl (lv_at hl 1 rfl) ?_
  obtain ⟨k1, hf⟩ := xk_of hf
  refine x_lald (n := 6) (f := uP.2.2.2.2.1) hc hw (ca_5 ha) k1 dX4_heldFor_5 ?_
  refine lv_aload_n hx hb dX4_heldFor_6 rfl (lv_at hl 0 rfl) ?_
  refine x_get (v := .ref (xAd κ (26 * wa + 6))) hc hw (ca_1 ha) fX4_29 rfl dX4_heldFor_7 ?_
  refine lv_iload_n hx hb dX4_heldFor_10 rfl (lv_at hl 1 rfl) ?_
  obtain ⟨k2, hf⟩ := xk_of hf
  refine x_lald (n := 6) (f := uP.2.2.2.2.2.1) hc hw (ca_6 ha) k2 dX4_heldFor_11 ?_
  refine lv_lsub hx hb dX4_heldFor_12 ?_
  refine lv_aload_n hx hb dX4_heldFor_13 rfl (lv_at hl 0 rfl) ?_
  refine x_get (v := .ref (xAd κ (26 * wa + 7))) hc hw (ca_1 ha) fX4_32 rfl dX4_heldFor_14 ?_
  refine lv_iload_n hx hb dX4_heldFor_17 rfl (lv_at hl 1 rfl) ?_
  obtain ⟨k3, hf⟩ := xk_of hf
  refine x_lald (n := 6) (f := uP.2.2.2.2.2.2) hc hw (ca_7 ha) k3 dX4_heldFor_18 ?_
  refine lv_lsub hx hb dX4_heldFor_19 ?_
  cases hf
  exact K _ _ _ _ dX4_heldFor_20 hw
def f_X4_numberOf (x1 : Int32) (x2 : Int32) (uP : sPar) : Option Int64 :=
  if x2 = 0 then (xk (xin x1 6) (some ((uP.2.1 x1.toNatClampNeg).toInt64))) else (if x2 = 1 then (xk (xin x1 6) (some ((uP.2.2.1 x1.toNatClampNeg).toInt64))) else (if x2 = 2 then (xk (xin x1 6) (some ((uP.2.2.2.1 x1.toNatClampNeg)))) else (if x2 = 3 then (xk (xin x1 6) (some ((uP.2.2.2.2.1 x1.toNatClampNeg)))) else (if x2 = 4 then (xk (xin x1 6) (some ((uP.2.2.2.2.2.1 x1.toNatClampNeg)))) else (if x2 = 5 then (xk (xin x1 6) (some ((uP.2.2.2.2.2.2 x1.toNatClampNeg)))) else (if x2 = 6 then (xb1 (f_X4_heldFor x1 uP) fun v14 => (some v14)) else (xb1 (f_X4_shortOf x1 uP) fun v16 => (some v16))))))))
set_option maxHeartbeats 4000000 in
set_option maxRecDepth 100000 in
theorem m_X4_numberOf {l : Launch} {κ : xKt} {wA : Nat → sAcc} {wa : Nat} {wY : sTxt × sRng × sMai × sRef × sOut} (ha : wa < 9)  {x1 : Int32} {x2 : Int32} {uP : sPar} {uC : sCla} {uD : sDeb} {uJ : sJou} {ur : xF32} {ut : xF32} {ud : Int32} {ug : Int32} {rr : Int64} (hf : f_X4_numberOf x1 x2 uP = some rr) : xMl l κ yX4_numberOf cX4_numberOf 3 (some .long) (xR 1 0 0) [.ref (xAd κ (26 * wa + 1)), .int x1, .int x2] (upA wA wa (uP, uC, uD, uJ, ur, ut, ud, ug), wY) (upA wA wa (uP, uC, uD, uJ, ur, ut, ud, ug), wY) rr := by
  unfold f_X4_numberOf at hf
  refine xMl_of pn_X4 (Nat.le_of_ble_eq_true rfl) ⟨rfl, rfl⟩ ?_
  intro A p e s m args below meth c ls Q hc hw hl K
  have hc : xC κ A p s m args meth c cX4_numberOf RX4 3 (some .long) := hc
  have hx := hc.1.1
  have hb := hc.1.2.1
  have hl : lv_has ls 3 [(0, .ref (xAd κ (26 * wa + 1))), (1, .int x1), (2, .int x2)] := hl
  refine lv_iload_n hx hb dX4_numberOf_0 rfl (lv_at hl 2 rfl) ?_
  by_cases c1 : x2 = 0
  · have hf := xif_t c1 hf
    refine x_tabI (k := 0) (off := 43) (tgt := 44) hx hb dX4_numberOf_1 c1 (by decide) (by decide) (by decide) ?_
    refine lv_aload_n hx hb dX4_numberOf_44 rfl (lv_at hl 0 rfl) ?_
    refine x_get (v := .ref (xAd κ (26 * wa + 2))) hc hw (ca_1 ha) fX4_15 rfl dX4_numberOf_45 ?_
    refine lv_iload_n hx hb dX4_numberOf_48 rfl (lv_at hl 1 rfl) ?_
    obtain ⟨k2, hf⟩ := xk_of hf
    refine x_iald (n := 6) (f := uP.2.1) hc hw (ca_2 ha) k2 dX4_numberOf_49 ?_
    refine lv_i2l (v := (uP.2.1 x1.toNatClampNeg).toInt64) hx hb dX4_numberOf_50 rfl ?_
    cases hf
    exact K _ _ _ _ dX4_numberOf_51 hw
  have hf := xif_f c1 hf
  by_cases c3 : x2 = 1
  · have hf := xif_t c3 hf
    refine x_tabI (k := 1) (off := 51) (tgt := 52) hx hb dX4_numberOf_1 c3 (by decide) (by decide) (by decide) ?_
    refine lv_aload_n hx hb dX4_numberOf_52 rfl (lv_at hl 0 rfl) ?_
    refine x_get (v := .ref (xAd κ (26 * wa + 3))) hc hw (ca_1 ha) fX4_19 rfl dX4_numberOf_53 ?_
    refine lv_iload_n hx hb dX4_numberOf_56 rfl (lv_at hl 1 rfl) ?_
    obtain ⟨k4, hf⟩ := xk_of hf
    refine x_iald (n := 6) (f := uP.2.2.1) hc hw (ca_3 ha) k4 dX4_numberOf_57 ?_
    refine lv_i2l (v := (uP.2.2.1 x1.toNatClampNeg).toInt64) hx hb dX4_numberOf_58 rfl ?_
    cases hf
    exact K _ _ _ _ dX4_numberOf_59 hw
  have hf := xif_f c3 hf
  by_cases c5 : x2 = 2
  · have hf := xif_t c5 hf
    refine x_tabI (k := 2) (off := 59) (tgt := 60) hx hb dX4_numberOf_1 c5 (by decide) (by decide) (by decide) ?_
    refine lv_aload_n hx hb dX4_numberOf_60 rfl (lv_at hl 0 rfl) ?_
    refine x_get (v := .ref (xAd κ (26 * wa + 4))) hc hw (ca_1 ha) fX4_22 rfl dX4_numberOf_61 ?_
    refine lv_iload_n hx hb dX4_numberOf_64 rfl (lv_at hl 1 rfl) ?_
    obtain ⟨k6, hf⟩ := xk_of hf
    refine x_lald (n := 6) (f := uP.2.2.2.1) hc hw (ca_4 ha) k6 dX4_numberOf_65 ?_
    cases hf
    exact K _ _ _ _ dX4_numberOf_66 hw
  have hf := xif_f c5 hf
  by_cases c7 : x2 = 3
  · have hf := xif_t c7 hf
    refine x_tabI (k := 3) (off := 66) (tgt := 67) hx hb dX4_numberOf_1 c7 (by decide) (by decide) (by decide) ?_
    refine lv_aload_n hx hb dX4_numberOf_67 rfl (lv_at hl 0 rfl) ?_
    refine x_get (v := .ref (xAd κ (26 * wa + 5))) hc hw (ca_1 ha) fX4_26 rfl dX4_numberOf_68 ?_
    refine lv_iload_n hx hb dX4_numberOf_71 rfl (lv_at hl 1 rfl) ?_
    obtain ⟨k8, hf⟩ := xk_of hf
    refine x_lald (n := 6) (f := uP.2.2.2.2.1) hc hw (ca_5 ha) k8 dX4_numberOf_72 ?_
    cases hf
    exact K _ _ _ _ dX4_numberOf_73 hw
  have hf := xif_f c7 hf
  by_cases c9 : x2 = 4
  · have hf := xif_t c9 hf
    refine x_tabI (k := 4) (off := 73) (tgt := 74) hx hb dX4_numberOf_1 c9 (by decide) (by decide) (by decide) ?_
    refine lv_aload_n hx hb dX4_numberOf_74 rfl (lv_at hl 0 rfl) ?_
    refine x_get (v := .ref (xAd κ (26 * wa + 6))) hc hw (ca_1 ha) fX4_29 rfl dX4_numberOf_75 ?_
    refine lv_iload_n hx hb dX4_numberOf_78 rfl (lv_at hl 1 rfl) ?_
    obtain ⟨k10, hf⟩ := xk_of hf
    refine x_lald (n := 6) (f := uP.2.2.2.2.2.1) hc hw (ca_6 ha) k10 dX4_numberOf_79 ?_
    cases hf
    exact K _ _ _ _ dX4_numberOf_80 hw
  have hf := xif_f c9 hf
  by_cases c11 : x2 = 5
  · have hf := xif_t c11 hf
    refine x_tabI (k := 5) (off := 80) (tgt := 81) hx hb dX4_numberOf_1 c11 (by decide) (by decide) (by decide) ?_
    refine lv_aload_n hx hb dX4_numberOf_81 rfl (lv_at hl 0 rfl) ?_
    refine x_get (v := .ref (xAd κ (26 * wa + 7))) hc hw (ca_1 ha) fX4_32 rfl dX4_numberOf_82 ?_
    refine lv_iload_n hx hb dX4_numberOf_85 rfl (lv_at hl 1 rfl) ?_
    obtain ⟨k12, hf⟩ := xk_of hf
    refine x_lald (n := 6) (f := uP.2.2.2.2.2.2) hc hw (ca_7 ha) k12 dX4_numberOf_86 ?_
    cases hf
    exact K _ _ _ _ dX4_numberOf_87 hw
  have hf := xif_f c11 hf
  by_cases c13 : x2 = 6
  · have hf := xif_t c13 hf
    refine x_tabI (k := 6) (off := 87) (tgt := 88) hx hb dX4_numberOf_1 c13 (by decide) (by decide) (by decide) ?_
    refine lv_aload_n hx hb dX4_numberOf_88 rfl (lv_at hl 0 rfl) ?_
    refine lv_iload_n hx hb dX4_numberOf_89 rfl (lv_at hl 1 rfl) ?_
    obtain ⟨v14, h15, hf⟩ := xb1_of hf
    refine x_calllV (As := [.int x1]) (rest := []) (σ' := (upA wA wa (uP, uC, uD, uJ, ur, ut, ud, ug), wY)) hc hw hl.1 (m_X4_heldFor ha h15) kX4_55 (ca_1 ha) rfl rfl ⟨rfl, rfl⟩ ⟨Nat.le_of_ble_eq_true rfl, Nat.le_of_ble_eq_true rfl⟩ ⟨Nat.zero_le _, Nat.zero_le _⟩ (Nat.le_of_ble_eq_true rfl) dX4_numberOf_90 (fun H locs hw => ?_)
    cases hf
    exact K _ _ _ _ dX4_numberOf_93 hw
  have hf := xif_f c13 hf
  have c1 := x_neT (z := 0) c1 (by decide)
  have c3 := x_neT (z := 1) c3 (by decide)
  have c5 := x_neT (z := 2) c5 (by decide)
  have c7 := x_neT (z := 3) c7 (by decide)
  have c9 := x_neT (z := 4) c9 (by decide)
  have c11 := x_neT (z := 5) c11 (by decide)
  have c13 := x_neT (z := 6) c13 (by decide)
  refine x_tabD (tgt := 94) hx hb dX4_numberOf_1 (by omega) (by decide) ?_
  refine lv_aload_n hx hb dX4_numberOf_94 rfl (lv_at hl 0 rfl) ?_
  refine lv_iload_n hx hb dX4_numberOf_95 rfl (lv_at hl 1 rfl) ?_
  obtain ⟨v16, h17, hf⟩ := xb1_of hf
  refine x_calllV (As := [.int x1]) (rest := []) (σ' := (upA wA wa (uP, uC, uD, uJ, ur, ut, ud, ug), wY)) hc hw hl.1 (m_X4_shortOf ha h17) kX4_59 (ca_1 ha) rfl rfl ⟨rfl, rfl⟩ ⟨Nat.le_of_ble_eq_true rfl, Nat.le_of_ble_eq_true rfl⟩ ⟨Nat.zero_le _, Nat.zero_le _⟩ (Nat.le_of_ble_eq_true rfl) dX4_numberOf_96 (fun H locs hw => ?_)
  cases hf
  exact K _ _ _ _ dX4_numberOf_99 hw
def f_X4_countOn_4 (fu : Nat) (uP : sPar) : Nat → (Int32) → (Int32) → (Int32) → Option Int32
  | 0, _, _, _ => none
  | n + 1, x1, x2, x3 => if uP.1 ≤ x3 then (some x2) else (xk (xin x3 6) (if (uP.2.1 x3.toNatClampNeg) = x1 then (f_X4_countOn_4 fu uP n x1 (x2 + 1) (x3 + 1)) else (f_X4_countOn_4 fu uP n x1 (x2 + 0) (x3 + 1))))
def f_X4_countOn (fu : Nat) (x1 : Int32) (uP : sPar) : Option Int32 :=
  f_X4_countOn_4 fu uP fu x1 0 0
set_option maxHeartbeats 4000000 in
set_option maxRecDepth 100000 in
theorem l_X4_countOn_4 {l : Launch} {κ : xKt} {wA : Nat → sAcc} {wa : Nat} {wY : sTxt × sRng × sMai × sRef × sOut} (ha : wa < 9) {fu : Nat} {uP : sPar} {uC : sCla} {uD : sDeb} {uJ : sJou} {ur : xF32} {ut : xF32} {ud : Int32} {ug : Int32} {A : Nat → Prop} {p : Program} {e : Env} {s : State} {m : MethodId} {args : Array Value} {below : List Frame} {meth : Method} {c : Code} {Q : State → Prop} {rr : Int32}
    (hc : xC κ A p s m args meth c cX4_countOn RX4 4 (some .int))
    (K : ∀ (pc : Nat) (ls : Array Slot) (H : Heap) (locs : List Loc), decode cX4_countOn pc = .ok (.ireturn, 1) → narrow .int (.int rr) = .int rr → xW κ A s (upA wA wa (uP, uC, uD, uJ, ur, ut, ud, ug), wY) H locs → W p l e (xR 0 0 0) s m args below meth c H locs 0 0 Q (F0 m pc ls [.int rr])) :
    ∀ (n : Nat) (x1 : Int32) (x2 : Int32) (x3 : Int32) (H : Heap) (locs : List Loc) (ls : Array Slot), f_X4_countOn_4 fu uP n x1 x2 x3 = some rr → xW κ A s (upA wA wa (uP, uC, uD, uJ, ur, ut, ud, ug), wY) H locs → lv_has ls 4 [(0, .ref (xAd κ (26 * wa + 1))), (1, .int x1), (2, .int x2), (3, .int x3)] → W p l e (xR 0 0 0) s m args below meth c H locs 0 0 Q (F0 m 4 ls []) := by
  have hx := hc.1.1
  have hb := hc.1.2.1
  intro n
  induction n with
  | zero =>
    intro x1 x2 x3 H locs ls hf
    rw [f_X4_countOn_4] at hf
    cases hf
  | succ n hi =>
    intro x1 x2 x3 H locs ls hf hw hl
    rw [f_X4_countOn_4] at hf
    refine lv_iload_n hx hb dX4_countOn_4 rfl (lv_at hl 3 rfl) ?_
    refine lv_aload_n hx hb dX4_countOn_5 rfl (lv_at hl 0 rfl) ?_
    refine x_get (v := .int uP.1) hc hw (ca_1 ha) fX4_9 rfl dX4_countOn_6 ?_
    refine lv_icmp_ge (tgt := 36) hx hb dX4_countOn_9 (by decide) (fun c1 => ?_) (fun c1 => ?_)
    · have hf := xif_t c1 hf
      refine lv_iload_n hx hb dX4_countOn_36 rfl (lv_at hl 2 rfl) ?_
      cases hf
      exact K _ _ _ _ dX4_countOn_37 rfl hw
    · have hf := xif_f c1 hf
      refine lv_iload_n hx hb dX4_countOn_12 rfl (lv_at hl 2 rfl) ?_
      refine lv_aload_n hx hb dX4_countOn_13 rfl (lv_at hl 0 rfl) ?_
      refine x_get (v := .ref (xAd κ (26 * wa + 2))) hc hw (ca_1 ha) fX4_15 rfl dX4_countOn_14 ?_
      refine lv_iload_n hx hb dX4_countOn_17 rfl (lv_at hl 3 rfl) ?_
      obtain ⟨k2, hf⟩ := xk_of hf
      refine x_iald (n := 6) (f := uP.2.1) hc hw (ca_2 ha) k2 dX4_countOn_18 ?_
      refine lv_iload_n hx hb dX4_countOn_19 rfl (lv_at hl 1 rfl) ?_
      refine lv_icmp_ne (tgt := 27) hx hb dX4_countOn_20 (by decide) (fun c3 => ?_) (fun c3 => ?_)
      · have hf := xif_f c3 hf
        refine lv_iconst (v := 0) hx hb dX4_countOn_27 (by decide) ?_
        refine lv_iadd hx hb dX4_countOn_28 ?_
        refine lv_istore_n (lv' := [(2, .int (x2 + 0)), (0, .ref (xAd κ (26 * wa + 1))), (1, .int x1), (3, .int x3)]) hx hb dX4_countOn_29 rfl hl (by decide) rfl (fun ls hl => ?_)
        refine lv_iinc (v := (x3 + 1)) (lv' := [(3, .int (x3 + 1)), (2, .int (x2 + 0)), (0, .ref (xAd κ (26 * wa + 1))), (1, .int x1)]) hx hb dX4_countOn_30 hl (k := 3) rfl rfl (by decide) rfl (fun ls hl => ?_)
        refine lv_goto (tgt := 4) hx hb dX4_countOn_33 (by decide) ?_
        exact hi _ _ _ _ _ _ hf hw (lv_sub hl [2, 3, 1, 0] rfl)
      · have hf := xif_t c3 hf
        refine lv_iconst (v := 1) hx hb dX4_countOn_23 (by decide) ?_
        refine lv_goto (tgt := 28) hx hb dX4_countOn_24 (by decide) ?_
        refine lv_iadd hx hb dX4_countOn_28 ?_
        refine lv_istore_n (lv' := [(2, .int (x2 + 1)), (0, .ref (xAd κ (26 * wa + 1))), (1, .int x1), (3, .int x3)]) hx hb dX4_countOn_29 rfl hl (by decide) rfl (fun ls hl => ?_)
        refine lv_iinc (v := (x3 + 1)) (lv' := [(3, .int (x3 + 1)), (2, .int (x2 + 1)), (0, .ref (xAd κ (26 * wa + 1))), (1, .int x1)]) hx hb dX4_countOn_30 hl (k := 3) rfl rfl (by decide) rfl (fun ls hl => ?_)
        refine lv_goto (tgt := 4) hx hb dX4_countOn_33 (by decide) ?_
        exact hi _ _ _ _ _ _ hf hw (lv_sub hl [2, 3, 1, 0] rfl)
set_option maxHeartbeats 4000000 in
set_option maxRecDepth 100000 in
theorem m_X4_countOn {l : Launch} {κ : xKt} {wA : Nat → sAcc} {wa : Nat} {wY : sTxt × sRng × sMai × sRef × sOut} (ha : wa < 9) {fu : Nat} {x1 : Int32} {uP : sPar} {uC : sCla} {uD : sDeb} {uJ : sJou} {ur : xF32} {ut : xF32} {ud : Int32} {ug : Int32} {rr : Int32} (hf : f_X4_countOn fu x1 uP = some rr) : xMi l κ yX4_countOn cX4_countOn 4 (some .int) (xR 0 0 0) [.ref (xAd κ (26 * wa + 1)), .int x1] (upA wA wa (uP, uC, uD, uJ, ur, ut, ud, ug), wY) (upA wA wa (uP, uC, uD, uJ, ur, ut, ud, ug), wY) rr := by
  unfold f_X4_countOn at hf
  refine xMi_of pn_X4 (Nat.le_of_ble_eq_true rfl) ⟨rfl, rfl⟩ ?_
  intro A p e s m args below meth c ls Q hc hw hl K
  have hc : xC κ A p s m args meth c cX4_countOn RX4 4 (some .int) := hc
  have hx := hc.1.1
  have hb := hc.1.2.1
  have hl : lv_has ls 4 [(0, .ref (xAd κ (26 * wa + 1))), (1, .int x1)] := hl
  refine lv_iconst (v := 0) hx hb dX4_countOn_0 (by decide) ?_
  refine lv_istore_n (lv' := [(2, .int 0), (0, .ref (xAd κ (26 * wa + 1))), (1, .int x1)]) hx hb dX4_countOn_1 rfl hl (by decide) rfl (fun ls hl => ?_)
  refine lv_iconst (v := 0) hx hb dX4_countOn_2 (by decide) ?_
  refine lv_istore_n (lv' := [(3, .int 0), (2, .int 0), (0, .ref (xAd κ (26 * wa + 1))), (1, .int x1)]) hx hb dX4_countOn_3 rfl hl (by decide) rfl (fun ls hl => ?_)
  exact l_X4_countOn_4 ha hc K fu _ _ _ _ _ _ hf hw (lv_sub hl [2, 3, 1, 0] rfl)
def f_X4_totalOf_5 (fu : Nat) (uP : sPar) : Nat → (Int32) → (Int64) → (Int32) → Option Int64
  | 0, _, _, _ => none
  | n + 1, x1, x2, x4 => if uP.1 ≤ x4 then (some x2) else (xb1 (f_X4_numberOf x4 x1 uP) fun v2 => (f_X4_totalOf_5 fu uP n x1 (x2 + v2) (x4 + 1)))
def f_X4_totalOf (fu : Nat) (x1 : Int32) (uP : sPar) : Option Int64 :=
  f_X4_totalOf_5 fu uP fu x1 0 0
set_option maxHeartbeats 4000000 in
set_option maxRecDepth 100000 in
theorem l_X4_totalOf_5 {l : Launch} {κ : xKt} {wA : Nat → sAcc} {wa : Nat} {wY : sTxt × sRng × sMai × sRef × sOut} (ha : wa < 9) {fu : Nat} {uP : sPar} {uC : sCla} {uD : sDeb} {uJ : sJou} {ur : xF32} {ut : xF32} {ud : Int32} {ug : Int32} {A : Nat → Prop} {p : Program} {e : Env} {s : State} {m : MethodId} {args : Array Value} {below : List Frame} {meth : Method} {c : Code} {Q : State → Prop} {rr : Int64}
    (hc : xC κ A p s m args meth c cX4_totalOf RX4 5 (some .long))
    (K : ∀ (pc : Nat) (ls : Array Slot) (H : Heap) (locs : List Loc), decode cX4_totalOf pc = .ok (.lreturn, 1) → xW κ A s (upA wA wa (uP, uC, uD, uJ, ur, ut, ud, ug), wY) H locs → W p l e (xR 2 0 0) s m args below meth c H locs 0 0 Q (F0 m pc ls [.long rr])) :
    ∀ (n : Nat) (x1 : Int32) (x2 : Int64) (x4 : Int32) (H : Heap) (locs : List Loc) (ls : Array Slot), f_X4_totalOf_5 fu uP n x1 x2 x4 = some rr → xW κ A s (upA wA wa (uP, uC, uD, uJ, ur, ut, ud, ug), wY) H locs → lv_has ls 5 [(0, .ref (xAd κ (26 * wa + 1))), (1, .int x1), (2, .long x2), (4, .int x4)] → W p l e (xR 2 0 0) s m args below meth c H locs 0 0 Q (F0 m 5 ls []) := by
  have hx := hc.1.1
  have hb := hc.1.2.1
  intro n
  induction n with
  | zero =>
    intro x1 x2 x4 H locs ls hf
    rw [f_X4_totalOf_5] at hf
    cases hf
  | succ n hi =>
    intro x1 x2 x4 H locs ls hf hw hl
    rw [f_X4_totalOf_5] at hf
    refine lv_iload hx hb dX4_totalOf_5 (lv_at hl 3 rfl) ?_
    refine lv_aload_n hx hb dX4_totalOf_7 rfl (lv_at hl 0 rfl) ?_
    refine x_get (v := .int uP.1) hc hw (ca_1 ha) fX4_9 rfl dX4_totalOf_8 ?_
    refine lv_icmp_ge (tgt := 30) hx hb dX4_totalOf_11 (by decide) (fun c1 => ?_) (fun c1 => ?_)
    · have hf := xif_t c1 hf
      refine lv_lload_n hx hb dX4_totalOf_30 rfl (lv_at hl 2 rfl) ?_
      cases hf
      exact K _ _ _ _ dX4_totalOf_31 hw
    · have hf := xif_f c1 hf
      refine lv_lload_n hx hb dX4_totalOf_14 rfl (lv_at hl 2 rfl) ?_
      refine lv_aload_n hx hb dX4_totalOf_15 rfl (lv_at hl 0 rfl) ?_
      refine lv_iload hx hb dX4_totalOf_16 (lv_at hl 3 rfl) ?_
      refine lv_iload_n hx hb dX4_totalOf_18 rfl (lv_at hl 1 rfl) ?_
      obtain ⟨v2, h3, hf⟩ := xb1_of hf
      refine x_calllV (As := [.int x4, .int x1]) (rest := [.long x2]) (σ' := (upA wA wa (uP, uC, uD, uJ, ur, ut, ud, ug), wY)) hc hw hl.1 (m_X4_numberOf ha h3) kX4_62 (ca_1 ha) rfl rfl ⟨rfl, rfl⟩ ⟨Nat.le_of_ble_eq_true rfl, Nat.le_of_ble_eq_true rfl⟩ ⟨Nat.zero_le _, Nat.zero_le _⟩ (Nat.le_of_ble_eq_true rfl) dX4_totalOf_19 (fun H locs hw => ?_)
      refine lv_ladd hx hb dX4_totalOf_22 ?_
      refine lv_lstore_n (lv' := [(2, .long (x2 + v2)), (0, .ref (xAd κ (26 * wa + 1))), (1, .int x1), (4, .int x4)]) hx hb dX4_totalOf_23 rfl hl (by decide) rfl (fun ls hl => ?_)
      refine lv_iinc (v := (x4 + 1)) (lv' := [(4, .int (x4 + 1)), (2, .long (x2 + v2)), (0, .ref (xAd κ (26 * wa + 1))), (1, .int x1)]) hx hb dX4_totalOf_24 hl (k := 3) rfl rfl (by decide) rfl (fun ls hl => ?_)
      refine lv_goto (tgt := 5) hx hb dX4_totalOf_27 (by decide) ?_
      exact hi _ _ _ _ _ _ hf hw (lv_sub hl [2, 3, 1, 0] rfl)
set_option maxHeartbeats 4000000 in
set_option maxRecDepth 100000 in
theorem m_X4_totalOf {l : Launch} {κ : xKt} {wA : Nat → sAcc} {wa : Nat} {wY : sTxt × sRng × sMai × sRef × sOut} (ha : wa < 9) {fu : Nat} {x1 : Int32} {uP : sPar} {uC : sCla} {uD : sDeb} {uJ : sJou} {ur : xF32} {ut : xF32} {ud : Int32} {ug : Int32} {rr : Int64} (hf : f_X4_totalOf fu x1 uP = some rr) : xMl l κ yX4_totalOf cX4_totalOf 5 (some .long) (xR 2 0 0) [.ref (xAd κ (26 * wa + 1)), .int x1] (upA wA wa (uP, uC, uD, uJ, ur, ut, ud, ug), wY) (upA wA wa (uP, uC, uD, uJ, ur, ut, ud, ug), wY) rr := by
  unfold f_X4_totalOf at hf
  refine xMl_of pn_X4 (Nat.le_of_ble_eq_true rfl) ⟨rfl, rfl⟩ ?_
  intro A p e s m args below meth c ls Q hc hw hl K
  have hc : xC κ A p s m args meth c cX4_totalOf RX4 5 (some .long) := hc
  have hx := hc.1.1
  have hb := hc.1.2.1
  have hl : lv_has ls 5 [(0, .ref (xAd κ (26 * wa + 1))), (1, .int x1)] := hl
  refine lv_lconst (v := 0) hx hb dX4_totalOf_0 (by decide) ?_
  refine lv_lstore_n (lv' := [(2, .long 0), (0, .ref (xAd κ (26 * wa + 1))), (1, .int x1)]) hx hb dX4_totalOf_1 rfl hl (by decide) rfl (fun ls hl => ?_)
  refine lv_iconst (v := 0) hx hb dX4_totalOf_2 (by decide) ?_
  refine lv_istore (lv' := [(4, .int 0), (2, .long 0), (0, .ref (xAd κ (26 * wa + 1))), (1, .int x1)]) hx hb dX4_totalOf_3 hl (by decide) rfl (fun ls hl => ?_)
  exact l_X4_totalOf_5 ha hc K fu _ _ _ _ _ _ hf hw (lv_sub hl [2, 3, 1, 0] rfl)
def f_X4_addOne (x1 : Int32) (x2 : Int32) (uP : sPar) : Option (Int32 × sPar) :=
  if uP.1 < 6 then (xk (xin uP.1 6) (xk (xin uP.1 6) (xk (xin uP.1 6) (xk (xin uP.1 6) (xk (xin uP.1 6) (xk (xin uP.1 6) (some (uP.1, ((uP.1 + 1), (upd uP.2.1 uP.1.toNatClampNeg x1), (upd uP.2.2.1 uP.1.toNatClampNeg x2), (vp_updL uP.2.2.2.1 uP.1.toNatClampNeg 0), (vp_updL uP.2.2.2.2.1 uP.1.toNatClampNeg 0), (vp_updL uP.2.2.2.2.2.1 uP.1.toNatClampNeg 0), (vp_updL uP.2.2.2.2.2.2 uP.1.toNatClampNeg 0)))))))))) else (some ((-1), uP))
set_option maxHeartbeats 4000000 in
set_option maxRecDepth 100000 in
theorem m_X4_addOne {l : Launch} {κ : xKt} {wA : Nat → sAcc} {wa : Nat} {wY : sTxt × sRng × sMai × sRef × sOut} (ha : wa < 9)  {x1 : Int32} {x2 : Int32} {uP : sPar} {uC : sCla} {uD : sDeb} {uJ : sJou} {ur : xF32} {ut : xF32} {ud : Int32} {ug : Int32} {rr : Int32} {yP : sPar} (hf : f_X4_addOne x1 x2 uP = some (rr, yP)) : xMi l κ yX4_addOne cX4_addOne 4 (some .int) (xR 0 0 0) [.ref (xAd κ (26 * wa + 1)), .int x1, .int x2] (upA wA wa (uP, uC, uD, uJ, ur, ut, ud, ug), wY) (upA wA wa (yP, uC, uD, uJ, ur, ut, ud, ug), wY) rr := by
  unfold f_X4_addOne at hf
  refine xMi_of pn_X4 (Nat.le_of_ble_eq_true rfl) ⟨rfl, rfl⟩ ?_
  intro A p e s m args below meth c ls Q hc hw hl K
  have hc : xC κ A p s m args meth c cX4_addOne RX4 4 (some .int) := hc
  have hx := hc.1.1
  have hb := hc.1.2.1
  have hl : lv_has ls 4 [(0, .ref (xAd κ (26 * wa + 1))), (1, .int x1), (2, .int x2)] := hl
  refine lv_aload_n hx hb dX4_addOne_0 rfl (lv_at hl 0 rfl) ?_
  refine x_get (v := .int uP.1) hc hw (ca_1 ha) fX4_9 rfl dX4_addOne_1 ?_
  refine lv_istore_n (lv' := [(3, .int uP.1), (0, .ref (xAd κ (26 * wa + 1))), (1, .int x1), (2, .int x2)]) hx hb dX4_addOne_4 rfl hl (by decide) rfl (fun ls hl => ?_)
  refine lv_iload_n hx hb dX4_addOne_5 rfl (lv_at hl 0 rfl) ?_
  refine lv_bipush (v := 6) hx hb dX4_addOne_6 (by decide) ?_
  refine lv_icmp_lt (tgt := 13) hx hb dX4_addOne_8 (by decide) (fun c1 => ?_) (fun c1 => ?_)
  · have hf := xif_t c1 hf
    refine lv_aload_n hx hb dX4_addOne_13 rfl (lv_at hl 1 rfl) ?_
    refine x_get (v := .ref (xAd κ (26 * wa + 2))) hc hw (ca_1 ha) fX4_15 rfl dX4_addOne_14 ?_
    refine lv_iload_n hx hb dX4_addOne_17 rfl (lv_at hl 0 rfl) ?_
    refine lv_iload_n hx hb dX4_addOne_18 rfl (lv_at hl 2 rfl) ?_
    obtain ⟨k2, hf⟩ := xk_of hf
    refine x_iast (n := 6) (f := uP.2.1) (σ' := (upA wA wa ((uP.1, (upd uP.2.1 uP.1.toNatClampNeg x1), uP.2.2.1, uP.2.2.2.1, uP.2.2.2.2.1, uP.2.2.2.2.2.1, uP.2.2.2.2.2.2), uC, uD, uJ, ur, ut, ud, ug), wY)) hc hw (ca_2 ha) k2 (sa_0_1 ha) dX4_addOne_19 (fun H locs hw => ?_)
    refine lv_aload_n hx hb dX4_addOne_20 rfl (lv_at hl 1 rfl) ?_
    refine x_get (v := .ref (xAd κ (26 * wa + 3))) hc hw (ca_1 ha) fX4_19 rfl dX4_addOne_21 ?_
    refine lv_iload_n hx hb dX4_addOne_24 rfl (lv_at hl 0 rfl) ?_
    refine lv_iload_n hx hb dX4_addOne_25 rfl (lv_at hl 3 rfl) ?_
    obtain ⟨k3, hf⟩ := xk_of hf
    refine x_iast (n := 6) (f := uP.2.2.1) (σ' := (upA wA wa ((uP.1, (upd uP.2.1 uP.1.toNatClampNeg x1), (upd uP.2.2.1 uP.1.toNatClampNeg x2), uP.2.2.2.1, uP.2.2.2.2.1, uP.2.2.2.2.2.1, uP.2.2.2.2.2.2), uC, uD, uJ, ur, ut, ud, ug), wY)) hc hw (ca_3 ha) k3 (sa_0_2 ha) dX4_addOne_26 (fun H locs hw => ?_)
    refine lv_aload_n hx hb dX4_addOne_27 rfl (lv_at hl 1 rfl) ?_
    refine x_get (v := .ref (xAd κ (26 * wa + 4))) hc hw (ca_1 ha) fX4_22 rfl dX4_addOne_28 ?_
    refine lv_iload_n hx hb dX4_addOne_31 rfl (lv_at hl 0 rfl) ?_
    refine lv_lconst (v := 0) hx hb dX4_addOne_32 (by decide) ?_
    obtain ⟨k4, hf⟩ := xk_of hf
    refine x_last (n := 6) (f := uP.2.2.2.1) (σ' := (upA wA wa ((uP.1, (upd uP.2.1 uP.1.toNatClampNeg x1), (upd uP.2.2.1 uP.1.toNatClampNeg x2), (vp_updL uP.2.2.2.1 uP.1.toNatClampNeg 0), uP.2.2.2.2.1, uP.2.2.2.2.2.1, uP.2.2.2.2.2.2), uC, uD, uJ, ur, ut, ud, ug), wY)) hc hw (ca_4 ha) k4 (sa_0_3 ha) dX4_addOne_33 (fun H locs hw => ?_)
    refine lv_aload_n hx hb dX4_addOne_34 rfl (lv_at hl 1 rfl) ?_
    refine x_get (v := .ref (xAd κ (26 * wa + 5))) hc hw (ca_1 ha) fX4_26 rfl dX4_addOne_35 ?_
    refine lv_iload_n hx hb dX4_addOne_38 rfl (lv_at hl 0 rfl) ?_
    refine lv_lconst (v := 0) hx hb dX4_addOne_39 (by decide) ?_
    obtain ⟨k5, hf⟩ := xk_of hf
    refine x_last (n := 6) (f := uP.2.2.2.2.1) (σ' := (upA wA wa ((uP.1, (upd uP.2.1 uP.1.toNatClampNeg x1), (upd uP.2.2.1 uP.1.toNatClampNeg x2), (vp_updL uP.2.2.2.1 uP.1.toNatClampNeg 0), (vp_updL uP.2.2.2.2.1 uP.1.toNatClampNeg 0), uP.2.2.2.2.2.1, uP.2.2.2.2.2.2), uC, uD, uJ, ur, ut, ud, ug), wY)) hc hw (ca_5 ha) k5 (sa_0_4 ha) dX4_addOne_40 (fun H locs hw => ?_)
    refine lv_aload_n hx hb dX4_addOne_41 rfl (lv_at hl 1 rfl) ?_
    refine x_get (v := .ref (xAd κ (26 * wa + 6))) hc hw (ca_1 ha) fX4_29 rfl dX4_addOne_42 ?_
    refine lv_iload_n hx hb dX4_addOne_45 rfl (lv_at hl 0 rfl) ?_
    refine lv_lconst (v := 0) hx hb dX4_addOne_46 (by decide) ?_
    obtain ⟨k6, hf⟩ := xk_of hf
    refine x_last (n := 6) (f := uP.2.2.2.2.2.1) (σ' := (upA wA wa ((uP.1, (upd uP.2.1 uP.1.toNatClampNeg x1), (upd uP.2.2.1 uP.1.toNatClampNeg x2), (vp_updL uP.2.2.2.1 uP.1.toNatClampNeg 0), (vp_updL uP.2.2.2.2.1 uP.1.toNatClampNeg 0), (vp_updL uP.2.2.2.2.2.1 uP.1.toNatClampNeg 0), uP.2.2.2.2.2.2), uC, uD, uJ, ur, ut, ud, ug), wY)) hc hw (ca_6 ha) k6 (sa_0_5 ha) dX4_addOne_47 (fun H locs hw => ?_)
    refine lv_aload_n hx hb dX4_addOne_48 rfl (lv_at hl 1 rfl) ?_
    refine x_get (v := .ref (xAd κ (26 * wa + 7))) hc hw (ca_1 ha) fX4_32 rfl dX4_addOne_49 ?_
    refine lv_iload_n hx hb dX4_addOne_52 rfl (lv_at hl 0 rfl) ?_
    refine lv_lconst (v := 0) hx hb dX4_addOne_53 (by decide) ?_
    obtain ⟨k7, hf⟩ := xk_of hf
    refine x_last (n := 6) (f := uP.2.2.2.2.2.2) (σ' := (upA wA wa ((uP.1, (upd uP.2.1 uP.1.toNatClampNeg x1), (upd uP.2.2.1 uP.1.toNatClampNeg x2), (vp_updL uP.2.2.2.1 uP.1.toNatClampNeg 0), (vp_updL uP.2.2.2.2.1 uP.1.toNatClampNeg 0), (vp_updL uP.2.2.2.2.2.1 uP.1.toNatClampNeg 0), (vp_updL uP.2.2.2.2.2.2 uP.1.toNatClampNeg 0)), uC, uD, uJ, ur, ut, ud, ug), wY)) hc hw (ca_7 ha) k7 (sa_0_6 ha) dX4_addOne_54 (fun H locs hw => ?_)
    refine lv_aload_n hx hb dX4_addOne_55 rfl (lv_at hl 1 rfl) ?_
    refine lv_dup hx hb dX4_addOne_56 rfl ?_
    refine x_get (v := .int uP.1) hc hw (ca_1 ha) fX4_9 rfl dX4_addOne_57 ?_
    refine lv_iconst (v := 1) hx hb dX4_addOne_60 (by decide) ?_
    refine lv_iadd hx hb dX4_addOne_61 ?_
    refine x_put (σ' := (upA wA wa (((uP.1 + 1), (upd uP.2.1 uP.1.toNatClampNeg x1), (upd uP.2.2.1 uP.1.toNatClampNeg x2), (vp_updL uP.2.2.2.1 uP.1.toNatClampNeg 0), (vp_updL uP.2.2.2.2.1 uP.1.toNatClampNeg 0), (vp_updL uP.2.2.2.2.2.1 uP.1.toNatClampNeg 0), (vp_updL uP.2.2.2.2.2.2 uP.1.toNatClampNeg 0)), uC, uD, uJ, ur, ut, ud, ug), wY)) hc hw (ca_1 ha) fX4_9 rfl rfl (Nat.le_of_ble_eq_true rfl) (sa_0_0 ha) dX4_addOne_62 (fun H locs hw => ?_)
    refine lv_iload_n hx hb dX4_addOne_65 rfl (lv_at hl 0 rfl) ?_
    cases hf
    exact K _ _ _ _ dX4_addOne_66 rfl hw
  · have hf := xif_f c1 hf
    refine lv_iconst (v := (-1)) hx hb dX4_addOne_11 (by decide) ?_
    cases hf
    exact K _ _ _ _ dX4_addOne_12 rfl hw
