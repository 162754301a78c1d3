def f_X5_markCreditors_23 (fu : Nat) (uD : sDeb) : Nat → (Int32) → (xF32) → Option xF32
  | 0, _, _ => none
  | n + 1, x2, uG2 => if uD.1 ≤ x2 then (some uG2) else (xk (xin x2 30) (xk (xin (uD.2.1 x2.toNatClampNeg) 6) (xk (xin x2 30) (xk (xin (uD.2.1 x2.toNatClampNeg) 6) (f_X5_markCreditors_23 fu uD n (x2 + 1) (upd uG2 (uD.2.1 x2.toNatClampNeg).toNatClampNeg ((uG2 (uD.2.1 x2.toNatClampNeg).toNatClampNeg) ||| ((1 : Int32) <<< ((uD.2.2.1 x2.toNatClampNeg) &&& 31)))))))))
def f_X5_markCreditors_2 (fu : Nat) (uD : sDeb) : Nat → (Int32) → (xF32) → Option xF32
  | 0, _, _ => none
  | n + 1, x2, uG2 => if 6 ≤ x2 then (f_X5_markCreditors_23 fu uD fu 0 uG2) else (xk (xin x2 6) (f_X5_markCreditors_2 fu uD n (x2 + 1) (upd uG2 x2.toNatClampNeg 0)))
def f_X5_markCreditors (fu : Nat) (uD : sDeb) (uG2 : xF32) : Option xF32 :=
  f_X5_markCreditors_2 fu uD fu 0 uG2
set_option maxHeartbeats 4000000 in
set_option maxRecDepth 100000 in
theorem l_X5_markCreditors_23 {l : Launch} {κ : xKt} {wA : Nat → sAcc} {wa : Nat} {wT : sTxt} {wZ : sMai × sRef × sOut} (ha : wa < 9) {fu : Nat} {uP : sPar} {uC : sCla} {uD : sDeb} {uJ : sJou} {ur : xF32} {ut : xF32} {ud : Int32} {ug : Int32} {uG0 : Int32} {uG1 : xF32} {A : Nat → Prop} {p : Program} {e : Env} {s : State} {m : MethodId} {args : Array Value} {below : List Frame} {meth : Method} {c : Code} {Q : State → Prop} {yG2 : xF32}
    (hc : xC κ A p s m args meth c cX5_markCreditors RX5 3 none)
    (K : ∀ (pc : Nat) (ls : Array Slot) (H : Heap) (locs : List Loc), decode cX5_markCreditors pc = .ok (.return_, 1) → xW κ A s (upA wA wa (uP, uC, uD, uJ, ur, ut, ud, ug), wT, (uG0, uG1, yG2), wZ) H locs → W p l e (xR 0 0 0) s m args below meth c H locs 0 0 Q (F0 m pc ls [])) :
    ∀ (n : Nat) (x2 : Int32) (uG2 : xF32) (H : Heap) (locs : List Loc) (ls : Array Slot), f_X5_markCreditors_23 fu uD n x2 uG2 = some yG2 → xW κ A s (upA wA wa (uP, uC, uD, uJ, ur, ut, ud, ug), wT, (uG0, uG1, uG2), wZ) H locs → lv_has ls 3 [(0, .ref (xAd κ 242)), (1, .ref (xAd κ (26 * wa + 15))), (2, .int x2)] → W p l e (xR 0 0 0) s m args below meth c H locs 0 0 Q (F0 m 23 ls []) := by
  have hx := hc.1.1
  have hb := hc.1.2.1
  intro n
  induction n with
  | zero =>
    intro x2 uG2 H locs ls hf
    rw [f_X5_markCreditors_23] at hf
    cases hf
  | succ n hi =>
    intro x2 uG2 H locs ls hf hw hl
    rw [f_X5_markCreditors_23] at hf
    refine lv_iload_n hx hb dX5_markCreditors_23 rfl (lv_at hl 2 rfl) ?_
    refine lv_aload_n hx hb dX5_markCreditors_24 rfl (lv_at hl 1 rfl) ?_
    refine x_get (v := .int uD.1) hc hw (ca_15 ha) fX5_30 rfl dX5_markCreditors_25 ?_
    refine lv_icmp_ge (tgt := 59) hx hb dX5_markCreditors_28 (by decide) (fun c2 => ?_) (fun c2 => ?_)
    · have hf := xif_t c2 hf
      cases hf
      exact K _ _ _ _ dX5_markCreditors_59 hw
    · have hf := xif_f c2 hf
      refine lv_aload_n hx hb dX5_markCreditors_31 rfl (lv_at hl 0 rfl) ?_
      refine x_get (v := .ref (xAd κ 244)) hc hw co_242 fX5_19 rfl dX5_markCreditors_32 ?_
      refine lv_aload_n hx hb dX5_markCreditors_35 rfl (lv_at hl 1 rfl) ?_
      refine x_get (v := .ref (xAd κ (26 * wa + 16))) hc hw (ca_15 ha) fX5_35 rfl dX5_markCreditors_36 ?_
      refine lv_iload_n hx hb dX5_markCreditors_39 rfl (lv_at hl 2 rfl) ?_
      obtain ⟨k3, hf⟩ := xk_of hf
      refine x_iald (n := 30) (f := uD.2.1) hc hw (ca_16 ha) k3 dX5_markCreditors_40 ?_
      refine lv_dup2_11 hx hb dX5_markCreditors_41 rfl rfl ?_
      obtain ⟨k4, hf⟩ := xk_of hf
      refine x_iald (n := 6) (f := uG2) hc hw co_244 k4 dX5_markCreditors_42 ?_
      refine lv_iconst (v := 1) hx hb dX5_markCreditors_43 (by decide) ?_
      refine lv_aload_n hx hb dX5_markCreditors_44 rfl (lv_at hl 1 rfl) ?_
      refine x_get (v := .ref (xAd κ (26 * wa + 17))) hc hw (ca_15 ha) fX5_38 rfl dX5_markCreditors_45 ?_
      refine lv_iload_n hx hb dX5_markCreditors_48 rfl (lv_at hl 2 rfl) ?_
      obtain ⟨k5, hf⟩ := xk_of hf
      refine x_iald (n := 30) (f := uD.2.2.1) hc hw (ca_17 ha) k5 dX5_markCreditors_49 ?_
      refine lv_ishl hx hb dX5_markCreditors_50 ?_
      refine lv_ior hx hb dX5_markCreditors_51 ?_
      obtain ⟨k6, hf⟩ := xk_of hf
      refine x_iast (n := 6) (f := uG2) (σ' := (upA wA wa (uP, uC, uD, uJ, ur, ut, ud, ug), wT, (uG0, uG1, (upd uG2 (uD.2.1 x2.toNatClampNeg).toNatClampNeg ((uG2 (uD.2.1 x2.toNatClampNeg).toNatClampNeg) ||| ((1 : Int32) <<< ((uD.2.2.1 x2.toNatClampNeg) &&& 31))))), wZ)) hc hw co_244 k6 so_G_2 dX5_markCreditors_52 (fun H locs hw => ?_)
      refine lv_iinc (v := (x2 + 1)) (lv' := [(2, .int (x2 + 1)), (0, .ref (xAd κ 242)), (1, .ref (xAd κ (26 * wa + 15)))]) hx hb dX5_markCreditors_53 hl (k := 2) rfl rfl (by decide) rfl (fun ls hl => ?_)
      refine lv_goto (tgt := 23) hx hb dX5_markCreditors_56 (by decide) ?_
      exact hi _ _ _ _ _ hf hw (lv_sub hl [1, 2, 0] rfl)
set_option maxHeartbeats 4000000 in
set_option maxRecDepth 100000 in
theorem l_X5_markCreditors_2 {l : Launch} {κ : xKt} {wA : Nat → sAcc} {wa : Nat} {wT : sTxt} {wZ : sMai × sRef × sOut} (ha : wa < 9) {fu : Nat} {uP : sPar} {uC : sCla} {uD : sDeb} {uJ : sJou} {ur : xF32} {ut : xF32} {ud : Int32} {ug : Int32} {uG0 : Int32} {uG1 : xF32} {A : Nat → Prop} {p : Program} {e : Env} {s : State} {m : MethodId} {args : Array Value} {below : List Frame} {meth : Method} {c : Code} {Q : State → Prop} {yG2 : xF32}
    (hc : xC κ A p s m args meth c cX5_markCreditors RX5 3 none)
    (K : ∀ (pc : Nat) (ls : Array Slot) (H : Heap) (locs : List Loc), decode cX5_markCreditors pc = .ok (.return_, 1) → xW κ A s (upA wA wa (uP, uC, uD, uJ, ur, ut, ud, ug), wT, (uG0, uG1, yG2), wZ) H locs → W p l e (xR 0 0 0) s m args below meth c H locs 0 0 Q (F0 m pc ls [])) :
    ∀ (n : Nat) (x2 : Int32) (uG2 : xF32) (H : Heap) (locs : List Loc) (ls : Array Slot), f_X5_markCreditors_2 fu uD n x2 uG2 = some yG2 → xW κ A s (upA wA wa (uP, uC, uD, uJ, ur, ut, ud, ug), wT, (uG0, uG1, uG2), wZ) H locs → lv_has ls 3 [(0, .ref (xAd κ 242)), (1, .ref (xAd κ (26 * wa + 15))), (2, .int x2)] → W p l e (xR 0 0 0) s m args below meth c H locs 0 0 Q (F0 m 2 ls []) := by
  have hx := hc.1.1
  have hb := hc.1.2.1
  intro n
  induction n with
  | zero =>
    intro x2 uG2 H locs ls hf
    rw [f_X5_markCreditors_2] at hf
    cases hf
  | succ n hi =>
    intro x2 uG2 H locs ls hf hw hl
    rw [f_X5_markCreditors_2] at hf
    refine lv_iload_n hx hb dX5_markCreditors_2 rfl (lv_at hl 2 rfl) ?_
    refine lv_bipush (v := 6) hx hb dX5_markCreditors_3 (by decide) ?_
    refine lv_icmp_ge (tgt := 21) hx hb dX5_markCreditors_5 (by decide) (fun c1 => ?_) (fun c1 => ?_)
    · have hf := xif_t c1 hf
      refine lv_iconst (v := 0) hx hb dX5_markCreditors_21 (by decide) ?_
      refine lv_istore_n (lv' := [(2, .int 0), (0, .ref (xAd κ 242)), (1, .ref (xAd κ (26 * wa + 15)))]) hx hb dX5_markCreditors_22 rfl hl (by decide) rfl (fun ls hl => ?_)
      exact l_X5_markCreditors_23 ha hc K fu _ _ _ _ _ hf hw (lv_sub hl [1, 2, 0] rfl)
    · have hf := xif_f c1 hf
      refine lv_aload_n hx hb dX5_markCreditors_8 rfl (lv_at hl 0 rfl) ?_
      refine x_get (v := .ref (xAd κ 244)) hc hw co_242 fX5_19 rfl dX5_markCreditors_9 ?_
      refine lv_iload_n hx hb dX5_markCreditors_12 rfl (lv_at hl 2 rfl) ?_
      refine lv_iconst (v := 0) hx hb dX5_markCreditors_13 (by decide) ?_
      obtain ⟨k7, hf⟩ := xk_of hf
      refine x_iast (n := 6) (f := uG2) (σ' := (upA wA wa (uP, uC, uD, uJ, ur, ut, ud, ug), wT, (uG0, uG1, (upd uG2 x2.toNatClampNeg 0)), wZ)) hc hw co_244 k7 so_G_2 dX5_markCreditors_14 (fun H locs hw => ?_)
      refine lv_iinc (v := (x2 + 1)) (lv' := [(2, .int (x2 + 1)), (0, .ref (xAd κ 242)), (1, .ref (xAd κ (26 * wa + 15)))]) hx hb dX5_markCreditors_15 hl (k := 2) rfl rfl (by decide) rfl (fun ls hl => ?_)
      refine lv_goto (tgt := 2) hx hb dX5_markCreditors_18 (by decide) ?_
      exact hi _ _ _ _ _ hf hw (lv_sub hl [1, 2, 0] rfl)
set_option maxHeartbeats 4000000 in
set_option maxRecDepth 100000 in
theorem m_X5_markCreditors {l : Launch} {κ : xKt} {wA : Nat → sAcc} {wa : Nat} {wT : sTxt} {wZ : sMai × sRef × sOut} (ha : wa < 9) {fu : Nat} {uP : sPar} {uC : sCla} {uD : sDeb} {uJ : sJou} {ur : xF32} {ut : xF32} {ud : Int32} {ug : Int32} {uG0 : Int32} {uG1 : xF32} {uG2 : xF32} {yG2 : xF32} (hf : f_X5_markCreditors fu uD uG2 = some yG2) : xMv l κ yX5_markCreditors cX5_markCreditors 3 none (xR 0 0 0) [.ref (xAd κ 242), .ref (xAd κ (26 * wa + 15))] (upA wA wa (uP, uC, uD, uJ, ur, ut, ud, ug), wT, (uG0, uG1, uG2), wZ) (upA wA wa (uP, uC, uD, uJ, ur, ut, ud, ug), wT, (uG0, uG1, yG2), wZ) := by
  unfold f_X5_markCreditors at hf
  refine xMv_of pn_X5 (Nat.le_of_ble_eq_true rfl) ⟨rfl, rfl⟩ ?_
  intro A p e s m args below meth c ls Q hc hw hl K
  have hc : xC κ A p s m args meth c cX5_markCreditors RX5 3 none := hc
  have hx := hc.1.1
  have hb := hc.1.2.1
  have hl : lv_has ls 3 [(0, .ref (xAd κ 242)), (1, .ref (xAd κ (26 * wa + 15)))] := hl
  refine lv_iconst (v := 0) hx hb dX5_markCreditors_0 (by decide) ?_
  refine lv_istore_n (lv' := [(2, .int 0), (0, .ref (xAd κ 242)), (1, .ref (xAd κ (26 * wa + 15)))]) hx hb dX5_markCreditors_1 rfl hl (by decide) rfl (fun ls hl => ?_)
  exact l_X5_markCreditors_2 ha hc K fu _ _ _ _ _ hf hw (lv_sub hl [1, 2, 0] rfl)
def f_X5_stands_2 (fu : Nat) (uG1 : xF32) : Nat → (Int32) → (Int32) → (Int32) → Option Int32
  | 0, _, _, _ => none
  | n + 1, x1, x2, x3 => if x1 ≤ x3 then (some 0) else (xk (xin x3 6) (if (uG1 x3.toNatClampNeg) = x2 then (some 1) else (f_X5_stands_2 fu uG1 n x1 x2 (x3 + 1))))
def f_X5_stands (fu : Nat) (x1 : Int32) (x2 : Int32) (uG1 : xF32) : Option Int32 :=
  f_X5_stands_2 fu uG1 fu x1 x2 0
set_option maxHeartbeats 4000000 in
set_option maxRecDepth 100000 in
theorem l_X5_stands_2 {l : Launch} {κ : xKt} {wA : Nat → sAcc} {wT : sTxt} {wZ : sMai × sRef × sOut} {fu : Nat} {uG0 : Int32} {uG1 : xF32} {uG2 : xF32} {A : Nat → Prop} {p : Program} {e : Env} {s : State} {m : MethodId} {args : Array Value} {below : List Frame} {meth : Method} {c : Code} {Q : State → Prop} {rr : Int32}
    (hc : xC κ A p s m args meth c cX5_stands RX5 4 (some .boolean))
    (K : ∀ (pc : Nat) (ls : Array Slot) (H : Heap) (locs : List Loc), decode cX5_stands pc = .ok (.ireturn, 1) → narrow .boolean (.int rr) = .int rr → xW κ A s (wA, wT, (uG0, uG1, uG2), wZ) H locs → W p l e (xR 0 0 0) s m args below meth c H locs 0 0 Q (F0 m pc ls [.int rr])) :
    ∀ (n : Nat) (x1 : Int32) (x2 : Int32) (x3 : Int32) (H : Heap) (locs : List Loc) (ls : Array Slot), f_X5_stands_2 fu uG1 n x1 x2 x3 = some rr → xW κ A s (wA, wT, (uG0, uG1, uG2), wZ) H locs → lv_has ls 4 [(0, .ref (xAd κ 243)), (1, .int x1), (2, .int x2), (3, .int x3)] → W p l e (xR 0 0 0) s m args below meth c H locs 0 0 Q (F0 m 2 ls []) := by
  have hx := hc.1.1
  have hb := hc.1.2.1
  intro n
  induction n with
  | zero =>
    intro x1 x2 x3 H locs ls hf
    rw [f_X5_stands_2] at hf
    cases hf
  | succ n hi =>
    intro x1 x2 x3 H locs ls hf hw hl
    rw [f_X5_stands_2] at hf
    refine lv_iload_n hx hb dX5_stands_2 rfl (lv_at hl 3 rfl) ?_
    refine lv_iload_n hx hb dX5_stands_3 rfl (lv_at hl 1 rfl) ?_
    refine lv_icmp_ge (tgt := 22) hx hb dX5_stands_4 (by decide) (fun c1 => ?_) (fun c1 => ?_)
    · have hf := xif_t c1 hf
      refine lv_iconst (v := 0) hx hb dX5_stands_22 (by decide) ?_
      cases hf
      exact K _ _ _ _ dX5_stands_23 rfl hw
    · have hf := xif_f c1 hf
      refine lv_aload_n hx hb dX5_stands_7 rfl (lv_at hl 0 rfl) ?_
      refine lv_iload_n hx hb dX5_stands_8 rfl (lv_at hl 3 rfl) ?_
      obtain ⟨k2, hf⟩ := xk_of hf
      refine x_iald (n := 6) (f := uG1) hc hw co_243 k2 dX5_stands_9 ?_
      refine lv_iload_n hx hb dX5_stands_10 rfl (lv_at hl 2 rfl) ?_
      refine lv_icmp_ne (tgt := 16) hx hb dX5_stands_11 (by decide) (fun c3 => ?_) (fun c3 => ?_)
      · have hf := xif_f c3 hf
        refine lv_iinc (v := (x3 + 1)) (lv' := [(3, .int (x3 + 1)), (0, .ref (xAd κ 243)), (1, .int x1), (2, .int x2)]) hx hb dX5_stands_16 hl (k := 3) rfl rfl (by decide) rfl (fun ls hl => ?_)
        refine lv_goto (tgt := 2) hx hb dX5_stands_19 (by decide) ?_
        exact hi _ _ _ _ _ _ hf hw (lv_sub hl [1, 2, 3, 0] rfl)
      · have hf := xif_t c3 hf
        refine lv_iconst (v := 1) hx hb dX5_stands_14 (by decide) ?_
        cases hf
        exact K _ _ _ _ dX5_stands_15 rfl hw
set_option maxHeartbeats 4000000 in
set_option maxRecDepth 100000 in
theorem m_X5_stands {l : Launch} {κ : xKt} {wA : Nat → sAcc} {wT : sTxt} {wZ : sMai × sRef × sOut} {fu : Nat} {x1 : Int32} {x2 : Int32} {uG0 : Int32} {uG1 : xF32} {uG2 : xF32} {rr : Int32} (hf : f_X5_stands fu x1 x2 uG1 = some rr) : xMi l κ yX5_stands cX5_stands 4 (some .boolean) (xR 0 0 0) [.ref (xAd κ 243), .int x1, .int x2] (wA, wT, (uG0, uG1, uG2), wZ) (wA, wT, (uG0, uG1, uG2), wZ) rr := by
  unfold f_X5_stands at hf
  refine xMi_of pn_X5 (Nat.le_of_ble_eq_true rfl) ⟨rfl, rfl⟩ ?_
  intro A p e s m args below meth c ls Q hc hw hl K
  have hc : xC κ A p s m args meth c cX5_stands RX5 4 (some .boolean) := hc
  have hx := hc.1.1
  have hb := hc.1.2.1
  have hl : lv_has ls 4 [(0, .ref (xAd κ 243)), (1, .int x1), (2, .int x2)] := hl
  refine lv_iconst (v := 0) hx hb dX5_stands_0 (by decide) ?_
  refine lv_istore_n (lv' := [(3, .int 0), (0, .ref (xAd κ 243)), (1, .int x1), (2, .int x2)]) hx hb dX5_stands_1 rfl hl (by decide) rfl (fun ls hl => ?_)
  exact l_X5_stands_2 hc K fu _ _ _ _ _ _ hf hw (lv_sub hl [1, 2, 3, 0] rfl)
def f_X5_closes_39 (rc : Int32 → Int32 → xF32 → xF32 → Option (Int32 × xF32)) (fu : Nat) (uG2 : xF32) : Nat → (Int32) → (Int32) → (Int32) → (Int32) → (xF32) → Option (Int32 × xF32)
  | 0, _, _, _, _, _ => none
  | n + 1, x2, x3, x4, x5, uG1 => if 6 ≤ x5 then (some (0, uG1)) else (if ((x4 >>> (x5 &&& 31)) &&& 1) = 1 then (xb1 (f_X5_stands fu x2 x5 uG1) fun v7 => (if v7 = 0 then (xk (xin x2 6) (xb2 (rc (x2 + 1) x3 (upd uG1 x2.toNatClampNeg x5) uG2) fun v11 uG1_12 => (if v11 = 0 then (f_X5_closes_39 rc fu uG2 n x2 x3 x4 (x5 + 1) uG1_12) else (some (1, uG1_12))))) else (f_X5_closes_39 rc fu uG2 n x2 x3 x4 (x5 + 1) uG1))) else (f_X5_closes_39 rc fu uG2 n x2 x3 x4 (x5 + 1) uG1))
def f_X5_closes (fu : Nat) : Nat → Int32 → Int32 → xF32 → xF32 → Option (Int32 × xF32)
  | 0, _, _, _, _ => none
  | n + 1, x2, x3, uG1, uG2 => xk (xin (x2 - 1) 6) (xk (xin (uG1 (x2 - 1).toNatClampNeg) 6) (if x2 < x3 then (xk (xin 0 6) (f_X5_closes_39 (f_X5_closes fu n) fu uG2 fu x2 x3 (uG2 (uG1 (x2 - 1).toNatClampNeg).toNatClampNeg) ((uG1 (0 : Int32).toNatClampNeg) + 1) uG1)) else (xk (xin 0 6) (if (((uG2 (uG1 (x2 - 1).toNatClampNeg).toNatClampNeg) >>> ((uG1 (0 : Int32).toNatClampNeg) &&& 31)) &&& 1) = 1 then (some (1, uG1)) else (some (0, uG1))))))
set_option maxHeartbeats 4000000 in
set_option maxRecDepth 100000 in
theorem l_X5_closes_39 {l : Launch} {κ : xKt} {wA : Nat → sAcc} {wT : sTxt} {wZ : sMai × sRef × sOut} {fu : Nat} {uG0 : Int32} {uG2 : xF32} {rc : Int32 → Int32 → xF32 → xF32 → Option (Int32 × xF32)} {dp : Nat} (ih : ∀ {x2 : Int32} {x3 : Int32} {uG0 : Int32} {uG1 : xF32} {uG2 : xF32} {rr : Int32} {yG1 : xF32}, rc x2 x3 uG1 uG2 = some (rr, yG1) → xMi l κ yX5_closes cX5_closes 6 (some .boolean) (xR (dp + 1) 0 0) [.ref (xAd κ 244), .ref (xAd κ 243), .int x2, .int x3] (wA, wT, (uG0, uG1, uG2), wZ) (wA, wT, (uG0, yG1, uG2), wZ) rr) {A : Nat → Prop} {p : Program} {e : Env} {s : State} {m : MethodId} {args : Array Value} {below : List Frame} {meth : Method} {c : Code} {Q : State → Prop} {rr : Int32} {yG1 : xF32}
    (hc : xC κ A p s m args meth c cX5_closes RX5 6 (some .boolean))
    (K : ∀ (pc : Nat) (ls : Array Slot) (H : Heap) (locs : List Loc), decode cX5_closes pc = .ok (.ireturn, 1) → narrow .boolean (.int rr) = .int rr → xW κ A s (wA, wT, (uG0, yG1, uG2), wZ) H locs → W p l e (xR (dp + 2) 0 0) s m args below meth c H locs 0 0 Q (F0 m pc ls [.int rr])) :
    ∀ (n : Nat) (x2 : Int32) (x3 : Int32) (x4 : Int32) (x5 : Int32) (uG1 : xF32) (H : Heap) (locs : List Loc) (ls : Array Slot), f_X5_closes_39 rc fu uG2 n x2 x3 x4 x5 uG1 = some (rr, yG1) → xW κ A s (wA, wT, (uG0, uG1, uG2), wZ) H locs → lv_has ls 6 [(0, .ref (xAd κ 244)), (1, .ref (xAd κ 243)), (2, .int x2), (3, .int x3), (4, .int x4), (5, .int x5)] → W p l e (xR (dp + 2) 0 0) s m args below meth c H locs 0 0 Q (F0 m 39 ls []) := by
  have hx := hc.1.1
  have hb := hc.1.2.1
  intro n
  induction n with
  | zero =>
    intro x2 x3 x4 x5 uG1 H locs ls hf
    rw [f_X5_closes_39] at hf
    cases hf
  | succ n hi =>
    intro x2 x3 x4 x5 uG1 H locs ls hf hw hl
    rw [f_X5_closes_39] at hf
    refine lv_iload hx hb dX5_closes_39 (lv_at hl 5 rfl) ?_
    refine lv_bipush (v := 6) hx hb dX5_closes_41 (by decide) ?_
    refine lv_icmp_ge (tgt := 92) hx hb dX5_closes_43 (by decide) (fun c5 => ?_) (fun c5 => ?_)
    · have hf := xif_t c5 hf
      refine lv_iconst (v := 0) hx hb dX5_closes_92 (by decide) ?_
      cases hf
      exact K _ _ _ _ dX5_closes_93 rfl hw
    · have hf := xif_f c5 hf
      refine lv_iload hx hb dX5_closes_46 (lv_at hl 4 rfl) ?_
      refine lv_iload hx hb dX5_closes_48 (lv_at hl 5 rfl) ?_
      refine lv_ishr hx hb dX5_closes_50 ?_
      refine lv_iconst (v := 1) hx hb dX5_closes_51 (by decide) ?_
      refine lv_iand hx hb dX5_closes_52 ?_
      refine lv_iconst (v := 1) hx hb dX5_closes_53 (by decide) ?_
      refine lv_icmp_ne (tgt := 86) hx hb dX5_closes_54 (by decide) (fun c6 => ?_) (fun c6 => ?_)
      · have hf := xif_f c6 hf
        refine lv_iinc (v := (x5 + 1)) (lv' := [(5, .int (x5 + 1)), (0, .ref (xAd κ 244)), (1, .ref (xAd κ 243)), (2, .int x2), (3, .int x3), (4, .int x4)]) hx hb dX5_closes_86 hl (k := 5) rfl rfl (by decide) rfl (fun ls hl => ?_)
        refine lv_goto (tgt := 39) hx hb dX5_closes_89 (by decide) ?_
        exact hi _ _ _ _ _ _ _ _ hf hw (lv_sub hl [1, 2, 3, 4, 5, 0] rfl)
      · have hf := xif_t c6 hf
        refine lv_aload_n hx hb dX5_closes_57 rfl (lv_at hl 1 rfl) ?_
        refine lv_iload_n hx hb dX5_closes_58 rfl (lv_at hl 2 rfl) ?_
        refine lv_iload hx hb dX5_closes_59 (lv_at hl 5 rfl) ?_
        obtain ⟨v7, h8, hf⟩ := xb1_of hf
        refine x_calliS (As := [.ref (xAd κ 243), .int x2, .int x5]) (rest := []) (σ' := (wA, wT, (uG0, uG1, uG2), wZ)) hc hw hl.1 (m_X5_stands h8) kX5_39 rfl rfl ⟨rfl, rfl⟩ ⟨by simp only [xR]; omega, by simp only [xR]; omega⟩ ⟨Nat.zero_le _, Nat.zero_le _⟩ (Nat.le_of_ble_eq_true rfl) dX5_closes_61 (fun H locs hw => ?_)
        refine lv_if_ne (tgt := 86) hx hb dX5_closes_64 (by decide) (fun c9 => ?_) (fun c9 => ?_)
        · have hf := xif_f c9 hf
          refine lv_iinc (v := (x5 + 1)) (lv' := [(5, .int (x5 + 1)), (0, .ref (xAd κ 244)), (1, .ref (xAd κ 243)), (2, .int x2), (3, .int x3), (4, .int x4)]) hx hb dX5_closes_86 hl (k := 5) rfl rfl (by decide) rfl (fun ls hl => ?_)
          refine lv_goto (tgt := 39) hx hb dX5_closes_89 (by decide) ?_
          exact hi _ _ _ _ _ _ _ _ hf hw (lv_sub hl [1, 2, 3, 4, 5, 0] rfl)
        · have hf := xif_t c9 hf
          refine lv_aload_n hx hb dX5_closes_67 rfl (lv_at hl 1 rfl) ?_
          refine lv_iload_n hx hb dX5_closes_68 rfl (lv_at hl 2 rfl) ?_
          refine lv_iload hx hb dX5_closes_69 (lv_at hl 5 rfl) ?_
          obtain ⟨k10, hf⟩ := xk_of hf
          refine x_iast (n := 6) (f := uG1) (σ' := (wA, wT, (uG0, (upd uG1 x2.toNatClampNeg x5), uG2), wZ)) hc hw co_243 k10 so_G_1 dX5_closes_71 (fun H locs hw => ?_)
          refine lv_aload_n hx hb dX5_closes_72 rfl (lv_at hl 0 rfl) ?_
          refine lv_aload_n hx hb dX5_closes_73 rfl (lv_at hl 1 rfl) ?_
          refine lv_iload_n hx hb dX5_closes_74 rfl (lv_at hl 2 rfl) ?_
          refine lv_iconst (v := 1) hx hb dX5_closes_75 (by decide) ?_
          refine lv_iadd hx hb dX5_closes_76 ?_
          refine lv_iload_n hx hb dX5_closes_77 rfl (lv_at hl 3 rfl) ?_
          obtain ⟨v11, uG1_12, h13, hf⟩ := xb2_of hf
          refine x_calliS (As := [.ref (xAd κ 244), .ref (xAd κ 243), .int (x2 + 1), .int x3]) (rest := []) (σ' := (wA, wT, (uG0, uG1_12, uG2), wZ)) hc hw hl.1 (ih h13) kX5_26 rfl rfl ⟨rfl, rfl⟩ ⟨by simp only [xR]; omega, by simp only [xR]; omega⟩ ⟨Nat.zero_le _, Nat.zero_le _⟩ (Nat.le_of_ble_eq_true rfl) dX5_closes_78 (fun H locs hw => ?_)
          refine lv_if_eq (tgt := 86) hx hb dX5_closes_81 (by decide) (fun c14 => ?_) (fun c14 => ?_)
          · have hf := xif_t c14 hf
            refine lv_iinc (v := (x5 + 1)) (lv' := [(5, .int (x5 + 1)), (0, .ref (xAd κ 244)), (1, .ref (xAd κ 243)), (2, .int x2), (3, .int x3), (4, .int x4)]) hx hb dX5_closes_86 hl (k := 5) rfl rfl (by decide) rfl (fun ls hl => ?_)
            refine lv_goto (tgt := 39) hx hb dX5_closes_89 (by decide) ?_
            exact hi _ _ _ _ _ _ _ _ hf hw (lv_sub hl [1, 2, 3, 4, 5, 0] rfl)
          · have hf := xif_f c14 hf
            refine lv_iconst (v := 1) hx hb dX5_closes_84 (by decide) ?_
            cases hf
            exact K _ _ _ _ dX5_closes_85 rfl hw
set_option maxHeartbeats 4000000 in
set_option maxRecDepth 100000 in
theorem m_X5_closes_d {l : Launch} {κ : xKt} {wA : Nat → sAcc} {wT : sTxt} {wZ : sMai × sRef × sOut} {fu : Nat} : ∀ (dp : Nat) {x2 : Int32} {x3 : Int32} {uG0 : Int32} {uG1 : xF32} {uG2 : xF32} {rr : Int32} {yG1 : xF32}, f_X5_closes fu dp x2 x3 uG1 uG2 = some (rr, yG1) → xMi l κ yX5_closes cX5_closes 6 (some .boolean) (xR (dp + 1) 0 0) [.ref (xAd κ 244), .ref (xAd κ 243), .int x2, .int x3] (wA, wT, (uG0, uG1, uG2), wZ) (wA, wT, (uG0, yG1, uG2), wZ) rr := by
  intro dp
  induction dp with
  | zero =>
    intro x2 x3 uG0 uG1 uG2 rr yG1 hf
    rw [f_X5_closes] at hf
    cases hf
  | succ dp ih =>
    intro x2 x3 uG0 uG1 uG2 rr yG1 hf
    rw [f_X5_closes] at hf
    refine xMi_of pn_X5 (Nat.le_of_ble_eq_true rfl) ⟨rfl, rfl⟩ ?_
    intro A p e s m args below meth c ls Q hc hw hl K
    have hc : xC κ A p s m args meth c cX5_closes RX5 6 (some .boolean) := hc
    have hx := hc.1.1
    have hb := hc.1.2.1
    have hl : lv_has ls 6 [(0, .ref (xAd κ 244)), (1, .ref (xAd κ 243)), (2, .int x2), (3, .int x3)] := hl
    refine lv_aload_n hx hb dX5_closes_0 rfl (lv_at hl 0 rfl) ?_
    refine lv_aload_n hx hb dX5_closes_1 rfl (lv_at hl 1 rfl) ?_
    refine lv_iload_n hx hb dX5_closes_2 rfl (lv_at hl 2 rfl) ?_
    refine lv_iconst (v := 1) hx hb dX5_closes_3 (by decide) ?_
    refine lv_isub hx hb dX5_closes_4 ?_
    obtain ⟨k1, hf⟩ := xk_of hf
    refine x_iald (n := 6) (f := uG1) hc hw co_243 k1 dX5_closes_5 ?_
    obtain ⟨k2, hf⟩ := xk_of hf
    refine x_iald (n := 6) (f := uG2) hc hw co_244 k2 dX5_closes_6 ?_
    refine lv_istore (lv' := [(4, .int (uG2 (uG1 (x2 - 1).toNatClampNeg).toNatClampNeg)), (0, .ref (xAd κ 244)), (1, .ref (xAd κ 243)), (2, .int x2), (3, .int x3)]) hx hb dX5_closes_7 hl (by decide) rfl (fun ls hl => ?_)
    refine lv_iload_n hx hb dX5_closes_9 rfl (lv_at hl 3 rfl) ?_
    refine lv_iload_n hx hb dX5_closes_10 rfl (lv_at hl 4 rfl) ?_
    refine lv_icmp_lt (tgt := 32) hx hb dX5_closes_11 (by decide) (fun c3 => ?_) (fun c3 => ?_)
    · have hf := xif_t c3 hf
      refine lv_aload_n hx hb dX5_closes_32 rfl (lv_at hl 2 rfl) ?_
      refine lv_iconst (v := 0) hx hb dX5_closes_33 (by decide) ?_
      obtain ⟨k4, hf⟩ := xk_of hf
      refine x_iald (n := 6) (f := uG1) hc hw co_243 k4 dX5_closes_34 ?_
      refine lv_iconst (v := 1) hx hb dX5_closes_35 (by decide) ?_
      refine lv_iadd hx hb dX5_closes_36 ?_
      refine lv_istore (lv' := [(5, .int ((uG1 (0 : Int32).toNatClampNeg) + 1)), (4, .int (uG2 (uG1 (x2 - 1).toNatClampNeg).toNatClampNeg)), (0, .ref (xAd κ 244)), (1, .ref (xAd κ 243)), (2, .int x2), (3, .int x3)]) hx hb dX5_closes_37 hl (by decide) rfl (fun ls hl => ?_)
      exact l_X5_closes_39 ih hc K fu _ _ _ _ _ _ _ _ hf hw (lv_sub hl [2, 3, 4, 5, 1, 0] rfl)
    · have hf := xif_f c3 hf
      refine lv_iload hx hb dX5_closes_14 (lv_at hl 0 rfl) ?_
      refine lv_aload_n hx hb dX5_closes_16 rfl (lv_at hl 2 rfl) ?_
      refine lv_iconst (v := 0) hx hb dX5_closes_17 (by decide) ?_
      obtain ⟨k15, hf⟩ := xk_of hf
      refine x_iald (n := 6) (f := uG1) hc hw co_243 k15 dX5_closes_18 ?_
      refine lv_ishr hx hb dX5_closes_19 ?_
      refine lv_iconst (v := 1) hx hb dX5_closes_20 (by decide) ?_
      refine lv_iand hx hb dX5_closes_21 ?_
      refine lv_iconst (v := 1) hx hb dX5_closes_22 (by decide) ?_
      refine lv_icmp_ne (tgt := 30) hx hb dX5_closes_23 (by decide) (fun c16 => ?_) (fun c16 => ?_)
      · have hf := xif_f c16 hf
        refine lv_iconst (v := 0) hx hb dX5_closes_30 (by decide) ?_
        cases hf
        exact K _ _ _ _ dX5_closes_31 rfl hw
      · have hf := xif_t c16 hf
        refine lv_iconst (v := 1) hx hb dX5_closes_26 (by decide) ?_
        refine lv_goto (tgt := 31) hx hb dX5_closes_27 (by decide) ?_
        cases hf
        exact K _ _ _ _ dX5_closes_31 rfl hw
theorem m_X5_closes {l : Launch} {κ : xKt} {wA : Nat → sAcc} {wT : sTxt} {wZ : sMai × sRef × sOut}  {x2 : Int32} {x3 : Int32} {uG0 : Int32} {uG1 : xF32} {uG2 : xF32} {rr : Int32} {yG1 : xF32} {fu : Nat} (hf : f_X5_closes fu 8 x2 x3 uG1 uG2 = some (rr, yG1)) : xMi l κ yX5_closes cX5_closes 6 (some .boolean) (xR (8 + 1) 0 0) [.ref (xAd κ 244), .ref (xAd κ 243), .int x2, .int x3] (wA, wT, (uG0, uG1, uG2), wZ) (wA, wT, (uG0, yG1, uG2), wZ) rr := m_X5_closes_d 8 hf
def f_X5_findFirst_20 (kx0 : Int32 → Int32 → xF32 → xF32 → Option (Int32 × xF32 × xF32)) (kx1 : Int32 → Int32 → xF32 → xF32 → Option (Int32 × xF32 × xF32)) (fu : Nat) (uD : sDeb) : Nat → (Int32) → (Int32) → (Int32) → (xF32) → (xF32) → Option (Int32 × xF32 × xF32)
  | 0, _, _, _, _, _ => none
  | n + 1, x2, x3, uG0, uG1, uG2 => if (6 - x2) < x3 then (kx1 x2 uG0 uG1 uG2) else (xk (xin 0 6) (xb2 (f_X5_closes fu 8 1 x2 (upd uG1 (0 : Int32).toNatClampNeg x3) uG2) fun v6 uG1_7 => (if v6 = 0 then (f_X5_findFirst_20 kx0 kx1 fu uD n x2 (x3 + 1) uG0 uG1_7 uG2) else (kx0 x2 uG0 uG1_7 uG2))))
def f_X5_findFirst_12 (fu : Nat) (uD : sDeb) : Nat → (Int32) → (Int32) → (xF32) → (xF32) → Option (Int32 × xF32 × xF32)
  | 0, _, _, _, _ => none
  | n + 1, x2, uG0, uG1, uG2 => if 6 < x2 then (some (uG0, uG1, uG2)) else (f_X5_findFirst_20 (fun n10 uG0_11 uG1_12 uG2_13 => (some (n10, uG1_12, uG2_13))) (fun n14 uG0_15 uG1_16 uG2_17 => (f_X5_findFirst_12 fu uD n (n14 + 1) uG0_15 uG1_16 uG2_17)) fu uD fu x2 0 uG0 uG1 uG2)
def f_X5_findFirst (fu : Nat) (uD : sDeb) (uG0 : Int32) (uG1 : xF32) (uG2 : xF32) : Option (Int32 × xF32 × xF32) :=
  xb1 (f_X5_markCreditors fu uD uG2) fun uG2_1 => (f_X5_findFirst_12 fu uD fu 2 0 uG1 uG2_1)
set_option maxHeartbeats 4000000 in
set_option maxRecDepth 100000 in
theorem l_X5_findFirst_20 {l : Launch} {κ : xKt} {wA : Nat → sAcc} {wa : Nat} {wT : sTxt} {wZ : sMai × sRef × sOut} (ha : wa < 9) {fu : Nat} {uP : sPar} {uC : sCla} {uD : sDeb} {uJ : sJou} {ur : xF32} {ut : xF32} {ud : Int32} {ug : Int32} {A : Nat → Prop} {p : Program} {e : Env} {s : State} {m : MethodId} {args : Array Value} {below : List Frame} {meth : Method} {c : Code} {Q : State → Prop} {yG0 : Int32} {yG1 : xF32} {yG2 : xF32} {kx0 : Int32 → Int32 → xF32 → xF32 → Option (Int32 × xF32 × xF32)} {kx1 : Int32 → Int32 → xF32 → xF32 → Option (Int32 × xF32 × xF32)}
    (hc : xC κ A p s m args meth c cX5_findFirst RX5 4 none)
    (K : ∀ (pc : Nat) (ls : Array Slot) (H : Heap) (locs : List Loc), decode cX5_findFirst pc = .ok (.return_, 1) → xW κ A s (upA wA wa (uP, uC, uD, uJ, ur, ut, ud, ug), wT, (yG0, yG1, yG2), wZ) H locs → W p l e (xR 11 0 0) s m args below meth c H locs 0 0 Q (F0 m pc ls [])) (hk0 : ∀ (x2 : Int32) (uG0 : Int32) (uG1 : xF32) (uG2 : xF32) (H : Heap) (locs : List Loc) (ls : Array Slot), kx0 x2 uG0 uG1 uG2 = some (yG0, yG1, yG2) → xW κ A s (upA wA wa (uP, uC, uD, uJ, ur, ut, ud, ug), wT, (uG0, uG1, uG2), wZ) H locs → lv_has ls 4 [(0, .ref (xAd κ 242)), (2, .int x2)] → W p l e (xR 11 0 0) s m args below meth c H locs 0 0 Q (F0 m 51 ls [])) (hk1 : ∀ (x2 : Int32) (uG0 : Int32) (uG1 : xF32) (uG2 : xF32) (H : Heap) (locs : List Loc) (ls : Array Slot), kx1 x2 uG0 uG1 uG2 = some (yG0, yG1, yG2) → xW κ A s (upA wA wa (uP, uC, uD, uJ, ur, ut, ud, ug), wT, (uG0, uG1, uG2), wZ) H locs → lv_has ls 4 [(0, .ref (xAd κ 242)), (2, .int x2)] → W p l e (xR 11 0 0) s m args below meth c H locs 0 0 Q (F0 m 63 ls [])) :
    ∀ (n : Nat) (x2 : Int32) (x3 : Int32) (uG0 : Int32) (uG1 : xF32) (uG2 : xF32) (H : Heap) (locs : List Loc) (ls : Array Slot), f_X5_findFirst_20 kx0 kx1 fu uD n x2 x3 uG0 uG1 uG2 = some (yG0, yG1, yG2) → xW κ A s (upA wA wa (uP, uC, uD, uJ, ur, ut, ud, ug), wT, (uG0, uG1, uG2), wZ) H locs → lv_has ls 4 [(0, .ref (xAd κ 242)), (2, .int x2), (3, .int x3)] → W p l e (xR 11 0 0) s m args below meth c H locs 0 0 Q (F0 m 20 ls []) := by
  have hx := hc.1.1
  have hb := hc.1.2.1
  intro n
  induction n with
  | zero =>
    intro x2 x3 uG0 uG1 uG2 H locs ls hf
    rw [f_X5_findFirst_20] at hf
    cases hf
  | succ n hi =>
    intro x2 x3 uG0 uG1 uG2 H locs ls hf hw hl
    rw [f_X5_findFirst_20] at hf
    refine lv_iload_n hx hb dX5_findFirst_20 rfl (lv_at hl 2 rfl) ?_
    refine lv_bipush (v := 6) hx hb dX5_findFirst_21 (by decide) ?_
    refine lv_iload_n hx hb dX5_findFirst_23 rfl (lv_at hl 1 rfl) ?_
    refine lv_isub hx hb dX5_findFirst_24 ?_
    refine lv_icmp_gt (tgt := 63) hx hb dX5_findFirst_25 (by decide) (fun c4 => ?_) (fun c4 => ?_)
    · have hf := xif_t c4 hf
      exact hk1 _ _ _ _ _ _ _ hf hw (lv_sub hl [0, 1] rfl)
    · have hf := xif_f c4 hf
      refine lv_aload_n hx hb dX5_findFirst_28 rfl (lv_at hl 0 rfl) ?_
      refine x_get (v := .ref (xAd κ 243)) hc hw co_242 fX5_15 rfl dX5_findFirst_29 ?_
      refine lv_iconst (v := 0) hx hb dX5_findFirst_32 (by decide) ?_
      refine lv_iload_n hx hb dX5_findFirst_33 rfl (lv_at hl 2 rfl) ?_
      obtain ⟨k5, hf⟩ := xk_of hf
      refine x_iast (n := 6) (f := uG1) (σ' := (upA wA wa (uP, uC, uD, uJ, ur, ut, ud, ug), wT, (uG0, (upd uG1 (0 : Int32).toNatClampNeg x3), uG2), wZ)) hc hw co_243 k5 so_G_1 dX5_findFirst_34 (fun H locs hw => ?_)
      refine lv_aload_n hx hb dX5_findFirst_35 rfl (lv_at hl 0 rfl) ?_
      refine x_get (v := .ref (xAd κ 244)) hc hw co_242 fX5_19 rfl dX5_findFirst_36 ?_
      refine lv_aload_n hx hb dX5_findFirst_39 rfl (lv_at hl 0 rfl) ?_
      refine x_get (v := .ref (xAd κ 243)) hc hw co_242 fX5_15 rfl dX5_findFirst_40 ?_
      refine lv_iconst (v := 1) hx hb dX5_findFirst_43 (by decide) ?_
      refine lv_iload_n hx hb dX5_findFirst_44 rfl (lv_at hl 1 rfl) ?_
      obtain ⟨v6, uG1_7, h8, hf⟩ := xb2_of hf
      refine x_calliS (As := [.ref (xAd κ 244), .ref (xAd κ 243), .int 1, .int x2]) (rest := []) (σ' := (upA wA wa (uP, uC, uD, uJ, ur, ut, ud, ug), wT, (uG0, uG1_7, uG2), wZ)) hc hw hl.1 (m_X5_closes h8) kX5_26 rfl rfl ⟨rfl, rfl⟩ ⟨Nat.le_of_ble_eq_true rfl, Nat.le_of_ble_eq_true rfl⟩ ⟨Nat.zero_le _, Nat.zero_le _⟩ (Nat.le_of_ble_eq_true rfl) dX5_findFirst_45 (fun H locs hw => ?_)
      refine lv_if_eq (tgt := 57) hx hb dX5_findFirst_48 (by decide) (fun c9 => ?_) (fun c9 => ?_)
      · have hf := xif_t c9 hf
        refine lv_iinc (v := (x3 + 1)) (lv' := [(3, .int (x3 + 1)), (0, .ref (xAd κ 242)), (2, .int x2)]) hx hb dX5_findFirst_57 hl (k := 2) rfl rfl (by decide) rfl (fun ls hl => ?_)
        refine lv_goto (tgt := 20) hx hb dX5_findFirst_60 (by decide) ?_
        exact hi _ _ _ _ _ _ _ _ hf hw (lv_sub hl [1, 2, 0] rfl)
      · have hf := xif_f c9 hf
        exact hk0 _ _ _ _ _ _ _ hf hw (lv_sub hl [0, 1] rfl)
set_option maxHeartbeats 4000000 in
set_option maxRecDepth 100000 in
theorem l_X5_findFirst_12 {l : Launch} {κ : xKt} {wA : Nat → sAcc} {wa : Nat} {wT : sTxt} {wZ : sMai × sRef × sOut} (ha : wa < 9) {fu : Nat} {uP : sPar} {uC : sCla} {uD : sDeb} {uJ : sJou} {ur : xF32} {ut : xF32} {ud : Int32} {ug : Int32} {A : Nat → Prop} {p : Program} {e : Env} {s : State} {m : MethodId} {args : Array Value} {below : List Frame} {meth : Method} {c : Code} {Q : State → Prop} {yG0 : Int32} {yG1 : xF32} {yG2 : xF32}
    (hc : xC κ A p s m args meth c cX5_findFirst RX5 4 none)
    (K : ∀ (pc : Nat) (ls : Array Slot) (H : Heap) (locs : List Loc), decode cX5_findFirst pc = .ok (.return_, 1) → xW κ A s (upA wA wa (uP, uC, uD, uJ, ur, ut, ud, ug), wT, (yG0, yG1, yG2), wZ) H locs → W p l e (xR 11 0 0) s m args below meth c H locs 0 0 Q (F0 m pc ls [])) :
    ∀ (n : Nat) (x2 : Int32) (uG0 : Int32) (uG1 : xF32) (uG2 : xF32) (H : Heap) (locs : List Loc) (ls : Array Slot), f_X5_findFirst_12 fu uD n x2 uG0 uG1 uG2 = some (yG0, yG1, yG2) → xW κ A s (upA wA wa (uP, uC, uD, uJ, ur, ut, ud, ug), wT, (uG0, uG1, uG2), wZ) H locs → lv_has ls 4 [(0, .ref (xAd κ 242)), (2, .int x2)] → W p l e (xR 11 0 0) s m args below meth c H locs 0 0 Q (F0 m 12 ls []) := by
  have hx := hc.1.1
  have hb := hc.1.2.1
  intro n
  induction n with
  | zero =>
    intro x2 uG0 uG1 uG2 H locs ls hf
    rw [f_X5_findFirst_12] at hf
    cases hf
  | succ n hi =>
    intro x2 uG0 uG1 uG2 H locs ls hf hw hl
    rw [f_X5_findFirst_12] at hf
    refine lv_iload_n hx hb dX5_findFirst_12 rfl (lv_at hl 1 rfl) ?_
    refine lv_bipush (v := 6) hx hb dX5_findFirst_13 (by decide) ?_
    refine lv_icmp_gt (tgt := 69) hx hb dX5_findFirst_15 (by decide) (fun c3 => ?_) (fun c3 => ?_)
    · have hf := xif_t c3 hf
      cases hf
      exact K _ _ _ _ dX5_findFirst_69 hw
    · have hf := xif_f c3 hf
      refine lv_iconst (v := 0) hx hb dX5_findFirst_18 (by decide) ?_
      refine lv_istore_n (lv' := [(3, .int 0), (0, .ref (xAd κ 242)), (2, .int x2)]) hx hb dX5_findFirst_19 rfl hl (by decide) rfl (fun ls hl => ?_)
      refine l_X5_findFirst_20 ha hc K (fun n10 uG0_11 uG1_12 uG2_13 H locs ls hf hw hl => ?_) (fun n14 uG0_15 uG1_16 uG2_17 H locs ls hf hw hl => ?_) fu _ _ _ _ _ _ _ _ hf hw (lv_sub hl [1, 2, 0] rfl)
      · refine lv_aload_n hx hb dX5_findFirst_51 rfl (lv_at hl 0 rfl) ?_
        refine lv_iload_n hx hb dX5_findFirst_52 rfl (lv_at hl 1 rfl) ?_
        refine x_put (σ' := (upA wA wa (uP, uC, uD, uJ, ur, ut, ud, ug), wT, (n10, uG1_12, uG2_13), wZ)) hc hw co_242 fX5_9 rfl rfl (Nat.le_of_ble_eq_true rfl) so_G_0 dX5_findFirst_53 (fun H locs hw => ?_)
        cases hf
        exact K _ _ _ _ dX5_findFirst_56 hw
      · refine lv_iinc (v := (n14 + 1)) (lv' := [(2, .int (n14 + 1)), (0, .ref (xAd κ 242))]) hx hb dX5_findFirst_63 hl (k := 1) rfl rfl (by decide) rfl (fun ls hl => ?_)
        refine lv_goto (tgt := 12) hx hb dX5_findFirst_66 (by decide) ?_
        exact hi _ _ _ _ _ _ _ hf hw (lv_sub hl [1, 0] rfl)
set_option maxHeartbeats 4000000 in
set_option maxRecDepth 100000 in
theorem m_X5_findFirst {l : Launch} {κ : xKt} {wA : Nat → sAcc} {wa : Nat} {wT : sTxt} {wZ : sMai × sRef × sOut} (ha : wa < 9) {fu : Nat} {uP : sPar} {uC : sCla} {uD : sDeb} {uJ : sJou} {ur : xF32} {ut : xF32} {ud : Int32} {ug : Int32} {uG0 : Int32} {uG1 : xF32} {uG2 : xF32} {yG0 : Int32} {yG1 : xF32} {yG2 : xF32} (hf : f_X5_findFirst fu uD uG0 uG1 uG2 = some (yG0, yG1, yG2)) : xMv l κ yX5_findFirst cX5_findFirst 4 none (xR 11 0 0) [.ref (xAd κ 242), .ref (xAd κ (26 * wa + 15))] (upA wA wa (uP, uC, uD, uJ, ur, ut, ud, ug), wT, (uG0, uG1, uG2), wZ) (upA wA wa (uP, uC, uD, uJ, ur, ut, ud, ug), wT, (yG0, yG1, yG2), wZ) := by
  unfold f_X5_findFirst at hf
  refine xMv_of pn_X5 (Nat.le_of_ble_eq_true rfl) ⟨rfl, rfl⟩ ?_
  intro A p e s m args below meth c ls Q hc hw hl K
  have hc : xC κ A p s m args meth c cX5_findFirst RX5 4 none := hc
  have hx := hc.1.1
  have hb := hc.1.2.1
  have hl : lv_has ls 4 [(0, .ref (xAd κ 242)), (1, .ref (xAd κ (26 * wa + 15)))] := hl
  refine lv_aload_n hx hb dX5_findFirst_0 rfl (lv_at hl 0 rfl) ?_
  refine lv_aload_n hx hb dX5_findFirst_1 rfl (lv_at hl 1 rfl) ?_
  obtain ⟨uG2_1, h2, hf⟩ := xb1_of hf
  refine x_callvV (As := [.ref (xAd κ (26 * wa + 15))]) (rest := []) (σ' := (upA wA wa (uP, uC, uD, uJ, ur, ut, ud, ug), wT, (uG0, uG1, uG2_1), wZ)) hc hw hl.1 (m_X5_markCreditors ha h2) kX5_22 co_242 rfl rfl ⟨rfl, rfl⟩ ⟨Nat.le_of_ble_eq_true rfl, Nat.le_of_ble_eq_true rfl⟩ ⟨Nat.zero_le _, Nat.zero_le _⟩ (Nat.le_of_ble_eq_true rfl) dX5_findFirst_2 (fun H locs hw => ?_)
  refine lv_aload_n hx hb dX5_findFirst_5 rfl (lv_at hl 0 rfl) ?_
  refine lv_iconst (v := 0) hx hb dX5_findFirst_6 (by decide) ?_
  refine x_put (σ' := (upA wA wa (uP, uC, uD, uJ, ur, ut, ud, ug), wT, (0, uG1, uG2_1), wZ)) hc hw co_242 fX5_9 rfl rfl (Nat.le_of_ble_eq_true rfl) so_G_0 dX5_findFirst_7 (fun H locs hw => ?_)
  refine lv_iconst (v := 2) hx hb dX5_findFirst_10 (by decide) ?_
  refine lv_istore_n (lv' := [(2, .int 2), (0, .ref (xAd κ 242)), (1, .ref (xAd κ (26 * wa + 15)))]) hx hb dX5_findFirst_11 rfl hl (by decide) rfl (fun ls hl => ?_)
  exact l_X5_findFirst_12 ha hc K fu _ _ _ _ _ _ _ hf hw (lv_sub hl [1, 0] rfl)
def f_X5_memberAfter (x1 : Int32) (uG0 : Int32) (uG1 : xF32) : Option Int32 :=
  if (uG0 - 1) ≤ x1 then (xk (xin 0 6) (some ((uG1 (0 : Int32).toNatClampNeg)))) else (xk (xin (x1 + 1) 6) (some ((uG1 (x1 + 1).toNatClampNeg))))
set_option maxHeartbeats 4000000 in
set_option maxRecDepth 100000 in
theorem m_X5_memberAfter {l : Launch} {κ : xKt} {wA : Nat → sAcc} {wT : sTxt} {wZ : sMai × sRef × sOut}  {x1 : Int32} {uG0 : Int32} {uG1 : xF32} {uG2 : xF32} {rr : Int32} (hf : f_X5_memberAfter x1 uG0 uG1 = some rr) : xMi l κ yX5_memberAfter cX5_memberAfter 2 (some .int) (xR 0 0 0) [.ref (xAd κ 242), .int x1] (wA, wT, (uG0, uG1, uG2), wZ) (wA, wT, (uG0, uG1, uG2), wZ) rr := by
  unfold f_X5_memberAfter at hf
  refine xMi_of pn_X5 (Nat.le_of_ble_eq_true rfl) ⟨rfl, rfl⟩ ?_
  intro A p e s m args below meth c ls Q hc hw hl K
  have hc : xC κ A p s m args meth c cX5_memberAfter RX5 2 (some .int) := hc
  have hx := hc.1.1
  have hb := hc.1.2.1
  have hl : lv_has ls 2 [(0, .ref (xAd κ 242)), (1, .int x1)] := hl
  refine lv_iload_n hx hb dX5_memberAfter_0 rfl (lv_at hl 1 rfl) ?_
  refine lv_aload_n hx hb dX5_memberAfter_1 rfl (lv_at hl 0 rfl) ?_
  refine x_get (v := .int uG0) hc hw co_242 fX5_9 rfl dX5_memberAfter_2 ?_
  refine lv_iconst (v := 1) hx hb dX5_memberAfter_5 (by decide) ?_
  refine lv_isub hx hb dX5_memberAfter_6 ?_
  refine lv_icmp_ge (tgt := 21) hx hb dX5_memberAfter_7 (by decide) (fun c1 => ?_) (fun c1 => ?_)
  · have hf := xif_t c1 hf
    refine lv_aload_n hx hb dX5_memberAfter_21 rfl (lv_at hl 0 rfl) ?_
    refine x_get (v := .ref (xAd κ 243)) hc hw co_242 fX5_15 rfl dX5_memberAfter_22 ?_
    refine lv_iconst (v := 0) hx hb dX5_memberAfter_25 (by decide) ?_
    obtain ⟨k2, hf⟩ := xk_of hf
    refine x_iald (n := 6) (f := uG1) hc hw co_243 k2 dX5_memberAfter_26 ?_
    cases hf
    exact K _ _ _ _ dX5_memberAfter_27 rfl hw
  · have hf := xif_f c1 hf
    refine lv_aload_n hx hb dX5_memberAfter_10 rfl (lv_at hl 0 rfl) ?_
    refine x_get (v := .ref (xAd κ 243)) hc hw co_242 fX5_15 rfl dX5_memberAfter_11 ?_
    refine lv_iload_n hx hb dX5_memberAfter_14 rfl (lv_at hl 1 rfl) ?_
    refine lv_iconst (v := 1) hx hb dX5_memberAfter_15 (by decide) ?_
    refine lv_iadd hx hb dX5_memberAfter_16 ?_
    obtain ⟨k3, hf⟩ := xk_of hf
    refine x_iald (n := 6) (f := uG1) hc hw co_243 k3 dX5_memberAfter_17 ?_
    refine lv_goto (tgt := 27) hx hb dX5_memberAfter_18 (by decide) ?_
    cases hf
    exact K _ _ _ _ dX5_memberAfter_27 rfl hw
