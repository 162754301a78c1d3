def f_X8_empties_2 (fu : Nat) : Nat → (Int32) → (xF64) → Option xF64
  | 0, _, _ => none
  | n + 1, x1, uF1 => if 304 ≤ x1 then (xk (xin 7 304) (xk (xin 8 304) (xk (xin 9 304) (xk (xin 10 304) (xk (xin 11 304) (xk (xin 12 304) (xk (xin 13 304) (some ((vp_updL (vp_updL (vp_updL (vp_updL (vp_updL (vp_updL (vp_updL uF1 (7 : Int32).toNatClampNeg 400) (8 : Int32).toNatClampNeg 600) (9 : Int32).toNatClampNeg 900) (10 : Int32).toNatClampNeg 1000) (11 : Int32).toNatClampNeg 500) (12 : Int32).toNatClampNeg 250) (13 : Int32).toNatClampNeg 100)))))))))) else (xk (xin x1 304) (f_X8_empties_2 fu n (x1 + 1) (vp_updL uF1 x1.toNatClampNeg 0)))
def f_X8_empties (fu : Nat) (uF1 : xF64) : Option xF64 :=
  f_X8_empties_2 fu fu 0 uF1
set_option maxHeartbeats 4000000 in
set_option maxRecDepth 100000 in
theorem l_X8_empties_2 {l : Launch} {κ : xKt} {wA : Nat → sAcc} {wT : sTxt} {wG : sRng} {wM : sMai} {wO : sOut} {fu : Nat} {uF0 : Int32} {uF2 : xF64} {uF3 : xF64} {uF4 : xF64} {uF5 : Int32} {uF6 : Int32} {uF7 : Int32} {uF8 : xF32} {uF9 : Int32} {uF10 : Int32} {uF11 : Int64} {uF12 : xF32} {uF13 : Int32} {uF14 : Int32} {uF15 : Int32} {uF16 : xF32} {uF17 : xF32} {uF18 : Int32} {A : Nat → Prop} {p : Program} {e : Env} {s : State} {m : MethodId} {args : Array Value} {below : List Frame} {meth : Method} {c : Code} {Q : State → Prop} {yF1 : xF64}
    (hc : xC κ A p s m args meth c cX8_empties RX8 2 none)
    (K : ∀ (pc : Nat) (ls : Array Slot) (H : Heap) (locs : List Loc), decode cX8_empties pc = .ok (.return_, 1) → xW κ A s (wA, wT, wG, wM, (uF0, yF1, uF2, uF3, uF4, uF5, uF6, uF7, uF8, uF9, uF10, uF11, uF12, uF13, uF14, uF15, uF16, uF17, uF18), wO) H locs → W p l e (xR 0 0 0) s m args below meth c H locs 0 0 Q (F0 m pc ls [])) :
    ∀ (n : Nat) (x1 : Int32) (uF1 : xF64) (H : Heap) (locs : List Loc) (ls : Array Slot), f_X8_empties_2 fu n x1 uF1 = some yF1 → xW κ A s (wA, wT, wG, wM, (uF0, uF1, uF2, uF3, uF4, uF5, uF6, uF7, uF8, uF9, uF10, uF11, uF12, uF13, uF14, uF15, uF16, uF17, uF18), wO) H locs → lv_has ls 2 [(0, .ref (xAd κ 245)), (1, .int x1)] → W p l e (xR 0 0 0) s m args below meth c H locs 0 0 Q (F0 m 2 ls []) := by
  have hx := hc.1.1
  have hb := hc.1.2.1
  intro n
  induction n with
  | zero =>
    intro x1 uF1 H locs ls hf
    rw [f_X8_empties_2] at hf
    cases hf
  | succ n hi =>
    intro x1 uF1 H locs ls hf hw hl
    rw [f_X8_empties_2] at hf
    refine lv_iload_n hx hb dX8_empties_2 rfl (lv_at hl 1 rfl) ?_
    refine lv_sipush (v := 304) hx hb dX8_empties_3 (by decide) ?_
    refine lv_icmp_ge (tgt := 22) hx hb dX8_empties_6 (by decide) (fun c1 => ?_) (fun c1 => ?_)
    · have hf := xif_t c1 hf
      refine lv_aload_n hx hb dX8_empties_22 rfl (lv_at hl 0 rfl) ?_
      refine x_get (v := .ref (xAd κ 246)) hc hw co_245 fX8_7 rfl dX8_empties_23 ?_
      refine lv_bipush (v := 7) hx hb dX8_empties_26 (by decide) ?_
      refine x_ldc2 hc w_constantLong_RX8_45_400 dX8_empties_28 ?_
      obtain ⟨k2, hf⟩ := xk_of hf
      refine x_last (n := 304) (f := uF1) (σ' := (wA, wT, wG, wM, (uF0, (vp_updL uF1 (7 : Int32).toNatClampNeg 400), uF2, uF3, uF4, uF5, uF6, uF7, uF8, uF9, uF10, uF11, uF12, uF13, uF14, uF15, uF16, uF17, uF18), wO)) hc hw co_246 k2 so_F_1 dX8_empties_31 (fun H locs hw => ?_)
      refine lv_aload_n hx hb dX8_empties_32 rfl (lv_at hl 0 rfl) ?_
      refine x_get (v := .ref (xAd κ 246)) hc hw co_245 fX8_7 rfl dX8_empties_33 ?_
      refine lv_bipush (v := 8) hx hb dX8_empties_36 (by decide) ?_
      refine x_ldc2 hc w_constantLong_RX8_47_600 dX8_empties_38 ?_
      obtain ⟨k3, hf⟩ := xk_of hf
      refine x_last (n := 304) (f := (vp_updL uF1 (7 : Int32).toNatClampNeg 400)) (σ' := (wA, wT, wG, wM, (uF0, (vp_updL (vp_updL uF1 (7 : Int32).toNatClampNeg 400) (8 : Int32).toNatClampNeg 600), uF2, uF3, uF4, uF5, uF6, uF7, uF8, uF9, uF10, uF11, uF12, uF13, uF14, uF15, uF16, uF17, uF18), wO)) hc hw co_246 k3 so_F_1 dX8_empties_41 (fun H locs hw => ?_)
      refine lv_aload_n hx hb dX8_empties_42 rfl (lv_at hl 0 rfl) ?_
      refine x_get (v := .ref (xAd κ 246)) hc hw co_245 fX8_7 rfl dX8_empties_43 ?_
      refine lv_bipush (v := 9) hx hb dX8_empties_46 (by decide) ?_
      refine x_ldc2 hc w_constantLong_RX8_49_900 dX8_empties_48 ?_
      obtain ⟨k4, hf⟩ := xk_of hf
      refine x_last (n := 304) (f := (vp_updL (vp_updL uF1 (7 : Int32).toNatClampNeg 400) (8 : Int32).toNatClampNeg 600)) (σ' := (wA, wT, wG, wM, (uF0, (vp_updL (vp_updL (vp_updL uF1 (7 : Int32).toNatClampNeg 400) (8 : Int32).toNatClampNeg 600) (9 : Int32).toNatClampNeg 900), uF2, uF3, uF4, uF5, uF6, uF7, uF8, uF9, uF10, uF11, uF12, uF13, uF14, uF15, uF16, uF17, uF18), wO)) hc hw co_246 k4 so_F_1 dX8_empties_51 (fun H locs hw => ?_)
      refine lv_aload_n hx hb dX8_empties_52 rfl (lv_at hl 0 rfl) ?_
      refine x_get (v := .ref (xAd κ 246)) hc hw co_245 fX8_7 rfl dX8_empties_53 ?_
      refine lv_bipush (v := 10) hx hb dX8_empties_56 (by decide) ?_
      refine x_ldc2 hc w_constantLong_RX8_51_1000 dX8_empties_58 ?_
      obtain ⟨k5, hf⟩ := xk_of hf
      refine x_last (n := 304) (f := (vp_updL (vp_updL (vp_updL uF1 (7 : Int32).toNatClampNeg 400) (8 : Int32).toNatClampNeg 600) (9 : Int32).toNatClampNeg 900)) (σ' := (wA, wT, wG, wM, (uF0, (vp_updL (vp_updL (vp_updL (vp_updL uF1 (7 : Int32).toNatClampNeg 400) (8 : Int32).toNatClampNeg 600) (9 : Int32).toNatClampNeg 900) (10 : Int32).toNatClampNeg 1000), uF2, uF3, uF4, uF5, uF6, uF7, uF8, uF9, uF10, uF11, uF12, uF13, uF14, uF15, uF16, uF17, uF18), wO)) hc hw co_246 k5 so_F_1 dX8_empties_61 (fun H locs hw => ?_)
      refine lv_aload_n hx hb dX8_empties_62 rfl (lv_at hl 0 rfl) ?_
      refine x_get (v := .ref (xAd κ 246)) hc hw co_245 fX8_7 rfl dX8_empties_63 ?_
      refine lv_bipush (v := 11) hx hb dX8_empties_66 (by decide) ?_
      refine x_ldc2 hc w_constantLong_RX8_53_500 dX8_empties_68 ?_
      obtain ⟨k6, hf⟩ := xk_of hf
      refine x_last (n := 304) (f := (vp_updL (vp_updL (vp_updL (vp_updL uF1 (7 : Int32).toNatClampNeg 400) (8 : Int32).toNatClampNeg 600) (9 : Int32).toNatClampNeg 900) (10 : Int32).toNatClampNeg 1000)) (σ' := (wA, wT, wG, wM, (uF0, (vp_updL (vp_updL (vp_updL (vp_updL (vp_updL uF1 (7 : Int32).toNatClampNeg 400) (8 : Int32).toNatClampNeg 600) (9 : Int32).toNatClampNeg 900) (10 : Int32).toNatClampNeg 1000) (11 : Int32).toNatClampNeg 500), uF2, uF3, uF4, uF5, uF6, uF7, uF8, uF9, uF10, uF11, uF12, uF13, uF14, uF15, uF16, uF17, uF18), wO)) hc hw co_246 k6 so_F_1 dX8_empties_71 (fun H locs hw => ?_)
      refine lv_aload_n hx hb dX8_empties_72 rfl (lv_at hl 0 rfl) ?_
      refine x_get (v := .ref (xAd κ 246)) hc hw co_245 fX8_7 rfl dX8_empties_73 ?_
      refine lv_bipush (v := 12) hx hb dX8_empties_76 (by decide) ?_
      refine x_ldc2 hc w_constantLong_RX8_55_250 dX8_empties_78 ?_
      obtain ⟨k7, hf⟩ := xk_of hf
      refine x_last (n := 304) (f := (vp_updL (vp_updL (vp_updL (vp_updL (vp_updL uF1 (7 : Int32).toNatClampNeg 400) (8 : Int32).toNatClampNeg 600) (9 : Int32).toNatClampNeg 900) (10 : Int32).toNatClampNeg 1000) (11 : Int32).toNatClampNeg 500)) (σ' := (wA, wT, wG, wM, (uF0, (vp_updL (vp_updL (vp_updL (vp_updL (vp_updL (vp_updL uF1 (7 : Int32).toNatClampNeg 400) (8 : Int32).toNatClampNeg 600) (9 : Int32).toNatClampNeg 900) (10 : Int32).toNatClampNeg 1000) (11 : Int32).toNatClampNeg 500) (12 : Int32).toNatClampNeg 250), uF2, uF3, uF4, uF5, uF6, uF7, uF8, uF9, uF10, uF11, uF12, uF13, uF14, uF15, uF16, uF17, uF18), wO)) hc hw co_246 k7 so_F_1 dX8_empties_81 (fun H locs hw => ?_)
      refine lv_aload_n hx hb dX8_empties_82 rfl (lv_at hl 0 rfl) ?_
      refine x_get (v := .ref (xAd κ 246)) hc hw co_245 fX8_7 rfl dX8_empties_83 ?_
      refine lv_bipush (v := 13) hx hb dX8_empties_86 (by decide) ?_
      refine x_ldc2 hc w_constantLong_RX8_57_100 dX8_empties_88 ?_
      obtain ⟨k8, hf⟩ := xk_of hf
      refine x_last (n := 304) (f := (vp_updL (vp_updL (vp_updL (vp_updL (vp_updL (vp_updL uF1 (7 : Int32).toNatClampNeg 400) (8 : Int32).toNatClampNeg 600) (9 : Int32).toNatClampNeg 900) (10 : Int32).toNatClampNeg 1000) (11 : Int32).toNatClampNeg 500) (12 : Int32).toNatClampNeg 250)) (σ' := (wA, wT, wG, wM, (uF0, (vp_updL (vp_updL (vp_updL (vp_updL (vp_updL (vp_updL (vp_updL uF1 (7 : Int32).toNatClampNeg 400) (8 : Int32).toNatClampNeg 600) (9 : Int32).toNatClampNeg 900) (10 : Int32).toNatClampNeg 1000) (11 : Int32).toNatClampNeg 500) (12 : Int32).toNatClampNeg 250) (13 : Int32).toNatClampNeg 100), uF2, uF3, uF4, uF5, uF6, uF7, uF8, uF9, uF10, uF11, uF12, uF13, uF14, uF15, uF16, uF17, uF18), wO)) hc hw co_246 k8 so_F_1 dX8_empties_91 (fun H locs hw => ?_)
      cases hf
      exact K _ _ _ _ dX8_empties_92 hw
    · have hf := xif_f c1 hf
      refine lv_aload_n hx hb dX8_empties_9 rfl (lv_at hl 0 rfl) ?_
      refine x_get (v := .ref (xAd κ 246)) hc hw co_245 fX8_7 rfl dX8_empties_10 ?_
      refine lv_iload_n hx hb dX8_empties_13 rfl (lv_at hl 1 rfl) ?_
      refine lv_lconst (v := 0) hx hb dX8_empties_14 (by decide) ?_
      obtain ⟨k9, hf⟩ := xk_of hf
      refine x_last (n := 304) (f := uF1) (σ' := (wA, wT, wG, wM, (uF0, (vp_updL uF1 x1.toNatClampNeg 0), uF2, uF3, uF4, uF5, uF6, uF7, uF8, uF9, uF10, uF11, uF12, uF13, uF14, uF15, uF16, uF17, uF18), wO)) hc hw co_246 k9 so_F_1 dX8_empties_15 (fun H locs hw => ?_)
      refine lv_iinc (v := (x1 + 1)) (lv' := [(1, .int (x1 + 1)), (0, .ref (xAd κ 245))]) hx hb dX8_empties_16 hl (k := 1) rfl rfl (by decide) rfl (fun ls hl => ?_)
      refine lv_goto (tgt := 2) hx hb dX8_empties_19 (by decide) ?_
      exact hi _ _ _ _ _ hf hw (lv_sub hl [1, 0] rfl)
set_option maxHeartbeats 4000000 in
set_option maxRecDepth 100000 in
theorem m_X8_empties {l : Launch} {κ : xKt} {wA : Nat → sAcc} {wT : sTxt} {wG : sRng} {wM : sMai} {wO : sOut} {fu : Nat} {uF0 : Int32} {uF1 : xF64} {uF2 : xF64} {uF3 : xF64} {uF4 : xF64} {uF5 : Int32} {uF6 : Int32} {uF7 : Int32} {uF8 : xF32} {uF9 : Int32} {uF10 : Int32} {uF11 : Int64} {uF12 : xF32} {uF13 : Int32} {uF14 : Int32} {uF15 : Int32} {uF16 : xF32} {uF17 : xF32} {uF18 : Int32} {yF1 : xF64} (hf : f_X8_empties fu uF1 = some yF1) : xMv l κ yX8_empties cX8_empties 2 none (xR 0 0 0) [.ref (xAd κ 245)] (wA, wT, wG, wM, (uF0, uF1, uF2, uF3, uF4, uF5, uF6, uF7, uF8, uF9, uF10, uF11, uF12, uF13, uF14, uF15, uF16, uF17, uF18), wO) (wA, wT, wG, wM, (uF0, yF1, uF2, uF3, uF4, uF5, uF6, uF7, uF8, uF9, uF10, uF11, uF12, uF13, uF14, uF15, uF16, uF17, uF18), wO) := by
  unfold f_X8_empties at hf
  refine xMv_of pn_X8 (Nat.le_of_ble_eq_true rfl) ⟨rfl, rfl⟩ ?_
  intro A p e s m args below meth c ls Q hc hw hl K
  have hc : xC κ A p s m args meth c cX8_empties RX8 2 none := hc
  have hx := hc.1.1
  have hb := hc.1.2.1
  have hl : lv_has ls 2 [(0, .ref (xAd κ 245))] := hl
  refine lv_iconst (v := 0) hx hb dX8_empties_0 (by decide) ?_
  refine lv_istore_n (lv' := [(1, .int 0), (0, .ref (xAd κ 245))]) hx hb dX8_empties_1 rfl hl (by decide) rfl (fun ls hl => ?_)
  exact l_X8_empties_2 hc K fu _ _ _ _ _ hf hw (lv_sub hl [1, 0] rfl)
def f_X8_thrown (uF0 : Int32) : Option Int32 :=
  some uF0
set_option maxHeartbeats 4000000 in
set_option maxRecDepth 100000 in
theorem m_X8_thrown {l : Launch} {κ : xKt} {wA : Nat → sAcc} {wT : sTxt} {wG : sRng} {wM : sMai} {wO : sOut}  {uF0 : Int32} {uF1 : xF64} {uF2 : xF64} {uF3 : xF64} {uF4 : xF64} {uF5 : Int32} {uF6 : Int32} {uF7 : Int32} {uF8 : xF32} {uF9 : Int32} {uF10 : Int32} {uF11 : Int64} {uF12 : xF32} {uF13 : Int32} {uF14 : Int32} {uF15 : Int32} {uF16 : xF32} {uF17 : xF32} {uF18 : Int32} {rr : Int32} (hf : f_X8_thrown uF0 = some rr) : xMi l κ yX8_thrown cX8_thrown 1 (some .int) (xR 0 0 0) [.ref (xAd κ 245)] (wA, wT, wG, wM, (uF0, uF1, uF2, uF3, uF4, uF5, uF6, uF7, uF8, uF9, uF10, uF11, uF12, uF13, uF14, uF15, uF16, uF17, uF18), wO) (wA, wT, wG, wM, (uF0, uF1, uF2, uF3, uF4, uF5, uF6, uF7, uF8, uF9, uF10, uF11, uF12, uF13, uF14, uF15, uF16, uF17, uF18), wO) rr := by
  unfold f_X8_thrown at hf
  refine xMi_of pn_X8 (Nat.le_of_ble_eq_true rfl) ⟨rfl, rfl⟩ ?_
  intro A p e s m args below meth c ls Q hc hw hl K
  have hc : xC κ A p s m args meth c cX8_thrown RX8 1 (some .int) := hc
  have hx := hc.1.1
  have hb := hc.1.2.1
  have hl : lv_has ls 1 [(0, .ref (xAd κ 245))] := hl
  refine lv_aload_n hx hb dX8_thrown_0 rfl (lv_at hl 0 rfl) ?_
  refine x_get (v := .int uF0) hc hw co_245 fX8_42 rfl dX8_thrown_1 ?_
  cases hf
  exact K _ _ _ _ dX8_thrown_4 rfl hw
def f_X8_fails (x1 : Int32) (uF0 : Int32) : Option (Int32 × Int32) :=
  some (0, x1)
set_option maxHeartbeats 4000000 in
set_option maxRecDepth 100000 in
theorem m_X8_fails {l : Launch} {κ : xKt} {wA : Nat → sAcc} {wT : sTxt} {wG : sRng} {wM : sMai} {wO : sOut}  {x1 : Int32} {uF0 : Int32} {uF1 : xF64} {uF2 : xF64} {uF3 : xF64} {uF4 : xF64} {uF5 : Int32} {uF6 : Int32} {uF7 : Int32} {uF8 : xF32} {uF9 : Int32} {uF10 : Int32} {uF11 : Int64} {uF12 : xF32} {uF13 : Int32} {uF14 : Int32} {uF15 : Int32} {uF16 : xF32} {uF17 : xF32} {uF18 : Int32} {rr : Int32} {yF0 : Int32} (hf : f_X8_fails x1 uF0 = some (rr, yF0)) : xMi l κ yX8_fails cX8_fails 2 (some .int) (xR 0 0 0) [.ref (xAd κ 245), .int x1] (wA, wT, wG, wM, (uF0, uF1, uF2, uF3, uF4, uF5, uF6, uF7, uF8, uF9, uF10, uF11, uF12, uF13, uF14, uF15, uF16, uF17, uF18), wO) (wA, wT, wG, wM, (yF0, uF1, uF2, uF3, uF4, uF5, uF6, uF7, uF8, uF9, uF10, uF11, uF12, uF13, uF14, uF15, uF16, uF17, uF18), wO) rr := by
  unfold f_X8_fails at hf
  refine xMi_of pn_X8 (Nat.le_of_ble_eq_true rfl) ⟨rfl, rfl⟩ ?_
  intro A p e s m args below meth c ls Q hc hw hl K
  have hc : xC κ A p s m args meth c cX8_fails RX8 2 (some .int) := hc
  have hx := hc.1.1
  have hb := hc.1.2.1
  have hl : lv_has ls 2 [(0, .ref (xAd κ 245)), (1, .int x1)] := hl
  refine lv_aload_n hx hb dX8_fails_0 rfl (lv_at hl 0 rfl) ?_
  refine lv_iload_n hx hb dX8_fails_1 rfl (lv_at hl 1 rfl) ?_
  refine x_put (σ' := (wA, wT, wG, wM, (x1, uF1, uF2, uF3, uF4, uF5, uF6, uF7, uF8, uF9, uF10, uF11, uF12, uF13, uF14, uF15, uF16, uF17, uF18), wO)) hc hw co_245 fX8_42 rfl rfl (Nat.le_of_ble_eq_true rfl) so_F_0 dX8_fails_2 (fun H locs hw => ?_)
  refine lv_iconst (v := 0) hx hb dX8_fails_5 (by decide) ?_
  cases hf
  exact K _ _ _ _ dX8_fails_6 rfl hw
def f_X8_failsLong (x1 : Int32) (uF0 : Int32) : Option (Int64 × Int32) :=
  some (0, x1)
set_option maxHeartbeats 4000000 in
set_option maxRecDepth 100000 in
theorem m_X8_failsLong {l : Launch} {κ : xKt} {wA : Nat → sAcc} {wT : sTxt} {wG : sRng} {wM : sMai} {wO : sOut}  {x1 : Int32} {uF0 : Int32} {uF1 : xF64} {uF2 : xF64} {uF3 : xF64} {uF4 : xF64} {uF5 : Int32} {uF6 : Int32} {uF7 : Int32} {uF8 : xF32} {uF9 : Int32} {uF10 : Int32} {uF11 : Int64} {uF12 : xF32} {uF13 : Int32} {uF14 : Int32} {uF15 : Int32} {uF16 : xF32} {uF17 : xF32} {uF18 : Int32} {rr : Int64} {yF0 : Int32} (hf : f_X8_failsLong x1 uF0 = some (rr, yF0)) : xMl l κ yX8_failsLong cX8_failsLong 2 (some .long) (xR 0 0 0) [.ref (xAd κ 245), .int x1] (wA, wT, wG, wM, (uF0, uF1, uF2, uF3, uF4, uF5, uF6, uF7, uF8, uF9, uF10, uF11, uF12, uF13, uF14, uF15, uF16, uF17, uF18), wO) (wA, wT, wG, wM, (yF0, uF1, uF2, uF3, uF4, uF5, uF6, uF7, uF8, uF9, uF10, uF11, uF12, uF13, uF14, uF15, uF16, uF17, uF18), wO) rr := by
  unfold f_X8_failsLong at hf
  refine xMl_of pn_X8 (Nat.le_of_ble_eq_true rfl) ⟨rfl, rfl⟩ ?_
  intro A p e s m args below meth c ls Q hc hw hl K
  have hc : xC κ A p s m args meth c cX8_failsLong RX8 2 (some .long) := hc
  have hx := hc.1.1
  have hb := hc.1.2.1
  have hl : lv_has ls 2 [(0, .ref (xAd κ 245)), (1, .int x1)] := hl
  refine lv_aload_n hx hb dX8_failsLong_0 rfl (lv_at hl 0 rfl) ?_
  refine lv_iload_n hx hb dX8_failsLong_1 rfl (lv_at hl 1 rfl) ?_
  refine x_put (σ' := (wA, wT, wG, wM, (x1, uF1, uF2, uF3, uF4, uF5, uF6, uF7, uF8, uF9, uF10, uF11, uF12, uF13, uF14, uF15, uF16, uF17, uF18), wO)) hc hw co_245 fX8_42 rfl rfl (Nat.le_of_ble_eq_true rfl) so_F_0 dX8_failsLong_2 (fun H locs hw => ?_)
  refine lv_lconst (v := 0) hx hb dX8_failsLong_5 (by decide) ?_
  cases hf
  exact K _ _ _ _ dX8_failsLong_6 hw
def f_X8_in (x0 : Int32) (x1 : Int32) (x2 : Int32) : Option Int32 :=
  if x0 < x1 then (some 0) else (if x2 < x0 then (some 0) else (some 1))
set_option maxHeartbeats 4000000 in
set_option maxRecDepth 100000 in
theorem m_X8_in {l : Launch} {κ : xKt} {wS : sW}  {x0 : Int32} {x1 : Int32} {x2 : Int32} {rr : Int32} (hf : f_X8_in x0 x1 x2 = some rr) : xMi l κ yX8_in cX8_in 3 (some .boolean) (xR 0 0 0) [.int x0, .int x1, .int x2] wS wS rr := by
  unfold f_X8_in at hf
  refine xMi_of pn_X8 (Nat.le_of_ble_eq_true rfl) ⟨rfl, rfl⟩ ?_
  intro A p e s m args below meth c ls Q hc hw hl K
  have hc : xC κ A p s m args meth c cX8_in RX8 3 (some .boolean) := hc
  have hx := hc.1.1
  have hb := hc.1.2.1
  have hl : lv_has ls 3 [(0, .int x0), (1, .int x1), (2, .int x2)] := hl
  refine lv_iload_n hx hb dX8_in_0 rfl (lv_at hl 0 rfl) ?_
  refine lv_iload_n hx hb dX8_in_1 rfl (lv_at hl 1 rfl) ?_
  refine lv_icmp_lt (tgt := 14) hx hb dX8_in_2 (by decide) (fun c1 => ?_) (fun c1 => ?_)
  · have hf := xif_t c1 hf
    refine lv_iconst (v := 0) hx hb dX8_in_14 (by decide) ?_
    cases hf
    exact K _ _ _ _ dX8_in_15 rfl hw
  · have hf := xif_f c1 hf
    refine lv_iload_n hx hb dX8_in_5 rfl (lv_at hl 0 rfl) ?_
    refine lv_iload_n hx hb dX8_in_6 rfl (lv_at hl 2 rfl) ?_
    refine lv_icmp_gt (tgt := 14) hx hb dX8_in_7 (by decide) (fun c2 => ?_) (fun c2 => ?_)
    · have hf := xif_t c2 hf
      refine lv_iconst (v := 0) hx hb dX8_in_14 (by decide) ?_
      cases hf
      exact K _ _ _ _ dX8_in_15 rfl hw
    · have hf := xif_f c2 hf
      refine lv_iconst (v := 1) hx hb dX8_in_10 (by decide) ?_
      refine lv_goto (tgt := 15) hx hb dX8_in_11 (by decide) ?_
      cases hf
      exact K _ _ _ _ dX8_in_15 rfl hw
def f_X8_least (x0 : Int64) (x2 : Int64) : Option Int64 :=
  if x2 ≤ x0 then (some x2) else (some x0)
set_option maxHeartbeats 4000000 in
set_option maxRecDepth 100000 in
theorem m_X8_least {l : Launch} {κ : xKt} {wS : sW}  {x0 : Int64} {x2 : Int64} {rr : Int64} (hf : f_X8_least x0 x2 = some rr) : xMl l κ yX8_least cX8_least 4 (some .long) (xR 0 0 0) [.long x0, .long x2] wS wS rr := by
  unfold f_X8_least at hf
  refine xMl_of pn_X8 (Nat.le_of_ble_eq_true rfl) ⟨rfl, rfl⟩ ?_
  intro A p e s m args below meth c ls Q hc hw hl K
  have hc : xC κ A p s m args meth c cX8_least RX8 4 (some .long) := hc
  have hx := hc.1.1
  have hb := hc.1.2.1
  have hl : lv_has ls 4 [(0, .long x0), (2, .long x2)] := hl
  refine lv_lload_n hx hb dX8_least_0 rfl (lv_at hl 0 rfl) ?_
  refine lv_lload_n hx hb dX8_least_1 rfl (lv_at hl 1 rfl) ?_
  refine x_lcmp_ge (tgt := 10) hx hb dX8_least_2 dX8_least_3 (by decide) (fun c1 => ?_) (fun c1 => ?_)
  · have hf := xif_t c1 hf
    refine lv_lload_n hx hb dX8_least_10 rfl (lv_at hl 1 rfl) ?_
    cases hf
    exact K _ _ _ _ dX8_least_11 hw
  · have hf := xif_f c1 hf
    refine lv_lload_n hx hb dX8_least_6 rfl (lv_at hl 0 rfl) ?_
    refine lv_goto (tgt := 11) hx hb dX8_least_7 (by decide) ?_
    cases hf
    exact K _ _ _ _ dX8_least_11 hw
def f_X8_parties (uF1 : xF64) : Option Int32 :=
  xk (xin 2 304) (some ((uF1 (2 : Int32).toNatClampNeg).toInt32))
set_option maxHeartbeats 4000000 in
set_option maxRecDepth 100000 in
theorem m_X8_parties {l : Launch} {κ : xKt} {wA : Nat → sAcc} {wT : sTxt} {wG : sRng} {wM : sMai} {wO : sOut}  {uF0 : Int32} {uF1 : xF64} {uF2 : xF64} {uF3 : xF64} {uF4 : xF64} {uF5 : Int32} {uF6 : Int32} {uF7 : Int32} {uF8 : xF32} {uF9 : Int32} {uF10 : Int32} {uF11 : Int64} {uF12 : xF32} {uF13 : Int32} {uF14 : Int32} {uF15 : Int32} {uF16 : xF32} {uF17 : xF32} {uF18 : Int32} {rr : Int32} (hf : f_X8_parties uF1 = some rr) : xMi l κ yX8_parties cX8_parties 1 (some .int) (xR 0 0 0) [.ref (xAd κ 245)] (wA, wT, wG, wM, (uF0, uF1, uF2, uF3, uF4, uF5, uF6, uF7, uF8, uF9, uF10, uF11, uF12, uF13, uF14, uF15, uF16, uF17, uF18), wO) (wA, wT, wG, wM, (uF0, uF1, uF2, uF3, uF4, uF5, uF6, uF7, uF8, uF9, uF10, uF11, uF12, uF13, uF14, uF15, uF16, uF17, uF18), wO) rr := by
  unfold f_X8_parties at hf
  refine xMi_of pn_X8 (Nat.le_of_ble_eq_true rfl) ⟨rfl, rfl⟩ ?_
  intro A p e s m args below meth c ls Q hc hw hl K
  have hc : xC κ A p s m args meth c cX8_parties RX8 1 (some .int) := hc
  have hx := hc.1.1
  have hb := hc.1.2.1
  have hl : lv_has ls 1 [(0, .ref (xAd κ 245))] := hl
  refine lv_aload_n hx hb dX8_parties_0 rfl (lv_at hl 0 rfl) ?_
  refine x_get (v := .ref (xAd κ 246)) hc hw co_245 fX8_7 rfl dX8_parties_1 ?_
  refine lv_iconst (v := 2) hx hb dX8_parties_4 (by decide) ?_
  obtain ⟨k1, hf⟩ := xk_of hf
  refine x_lald (n := 304) (f := uF1) hc hw co_246 k1 dX8_parties_5 ?_
  refine lv_l2i (v := (uF1 (2 : Int32).toNatClampNeg).toInt32) hx hb dX8_parties_6 rfl ?_
  cases hf
  exact K _ _ _ _ dX8_parties_7 rfl hw
def f_X8_claims (uF1 : xF64) : Option Int32 :=
  xk (xin 3 304) (some ((uF1 (3 : Int32).toNatClampNeg).toInt32))
set_option maxHeartbeats 4000000 in
set_option maxRecDepth 100000 in
theorem m_X8_claims {l : Launch} {κ : xKt} {wA : Nat → sAcc} {wT : sTxt} {wG : sRng} {wM : sMai} {wO : sOut}  {uF0 : Int32} {uF1 : xF64} {uF2 : xF64} {uF3 : xF64} {uF4 : xF64} {uF5 : Int32} {uF6 : Int32} {uF7 : Int32} {uF8 : xF32} {uF9 : Int32} {uF10 : Int32} {uF11 : Int64} {uF12 : xF32} {uF13 : Int32} {uF14 : Int32} {uF15 : Int32} {uF16 : xF32} {uF17 : xF32} {uF18 : Int32} {rr : Int32} (hf : f_X8_claims uF1 = some rr) : xMi l κ yX8_claims cX8_claims 1 (some .int) (xR 0 0 0) [.ref (xAd κ 245)] (wA, wT, wG, wM, (uF0, uF1, uF2, uF3, uF4, uF5, uF6, uF7, uF8, uF9, uF10, uF11, uF12, uF13, uF14, uF15, uF16, uF17, uF18), wO) (wA, wT, wG, wM, (uF0, uF1, uF2, uF3, uF4, uF5, uF6, uF7, uF8, uF9, uF10, uF11, uF12, uF13, uF14, uF15, uF16, uF17, uF18), wO) rr := by
  unfold f_X8_claims at hf
  refine xMi_of pn_X8 (Nat.le_of_ble_eq_true rfl) ⟨rfl, rfl⟩ ?_
  intro A p e s m args below meth c ls Q hc hw hl K
  have hc : xC κ A p s m args meth c cX8_claims RX8 1 (some .int) := hc
  have hx := hc.1.1
  have hb := hc.1.2.1
  have hl : lv_has ls 1 [(0, .ref (xAd κ 245))] := hl
  refine lv_aload_n hx hb dX8_claims_0 rfl (lv_at hl 0 rfl) ?_
  refine x_get (v := .ref (xAd κ 246)) hc hw co_245 fX8_7 rfl dX8_claims_1 ?_
  refine lv_iconst (v := 3) hx hb dX8_claims_4 (by decide) ?_
  obtain ⟨k1, hf⟩ := xk_of hf
  refine x_lald (n := 304) (f := uF1) hc hw co_246 k1 dX8_claims_5 ?_
  refine lv_l2i (v := (uF1 (3 : Int32).toNatClampNeg).toInt32) hx hb dX8_claims_6 rfl ?_
  cases hf
  exact K _ _ _ _ dX8_claims_7 rfl hw
def f_X8_debts (uF1 : xF64) : Option Int32 :=
  xk (xin 4 304) (some ((uF1 (4 : Int32).toNatClampNeg).toInt32))
set_option maxHeartbeats 4000000 in
set_option maxRecDepth 100000 in
theorem m_X8_debts {l : Launch} {κ : xKt} {wA : Nat → sAcc} {wT : sTxt} {wG : sRng} {wM : sMai} {wO : sOut}  {uF0 : Int32} {uF1 : xF64} {uF2 : xF64} {uF3 : xF64} {uF4 : xF64} {uF5 : Int32} {uF6 : Int32} {uF7 : Int32} {uF8 : xF32} {uF9 : Int32} {uF10 : Int32} {uF11 : Int64} {uF12 : xF32} {uF13 : Int32} {uF14 : Int32} {uF15 : Int32} {uF16 : xF32} {uF17 : xF32} {uF18 : Int32} {rr : Int32} (hf : f_X8_debts uF1 = some rr) : xMi l κ yX8_debts cX8_debts 1 (some .int) (xR 0 0 0) [.ref (xAd κ 245)] (wA, wT, wG, wM, (uF0, uF1, uF2, uF3, uF4, uF5, uF6, uF7, uF8, uF9, uF10, uF11, uF12, uF13, uF14, uF15, uF16, uF17, uF18), wO) (wA, wT, wG, wM, (uF0, uF1, uF2, uF3, uF4, uF5, uF6, uF7, uF8, uF9, uF10, uF11, uF12, uF13, uF14, uF15, uF16, uF17, uF18), wO) rr := by
  unfold f_X8_debts at hf
  refine xMi_of pn_X8 (Nat.le_of_ble_eq_true rfl) ⟨rfl, rfl⟩ ?_
  intro A p e s m args below meth c ls Q hc hw hl K
  have hc : xC κ A p s m args meth c cX8_debts RX8 1 (some .int) := hc
  have hx := hc.1.1
  have hb := hc.1.2.1
  have hl : lv_has ls 1 [(0, .ref (xAd κ 245))] := hl
  refine lv_aload_n hx hb dX8_debts_0 rfl (lv_at hl 0 rfl) ?_
  refine x_get (v := .ref (xAd κ 246)) hc hw co_245 fX8_7 rfl dX8_debts_1 ?_
  refine lv_iconst (v := 4) hx hb dX8_debts_4 (by decide) ?_
  obtain ⟨k1, hf⟩ := xk_of hf
  refine x_lald (n := 304) (f := uF1) hc hw co_246 k1 dX8_debts_5 ?_
  refine lv_l2i (v := (uF1 (4 : Int32).toNatClampNeg).toInt32) hx hb dX8_debts_6 rfl ?_
  cases hf
  exact K _ _ _ _ dX8_debts_7 rfl hw
def f_X8_isParty (x1 : Int32) (uF1 : xF64) : Option Int32 :=
  xb1 (f_X8_parties uF1) fun v1 => (xb1 (f_X8_in x1 0 (v1 - 1)) fun v3 => (xk (xisb v3) (some v3)))
set_option maxHeartbeats 4000000 in
set_option maxRecDepth 100000 in
theorem m_X8_isParty {l : Launch} {κ : xKt} {wA : Nat → sAcc} {wT : sTxt} {wG : sRng} {wM : sMai} {wO : sOut}  {x1 : Int32} {uF0 : Int32} {uF1 : xF64} {uF2 : xF64} {uF3 : xF64} {uF4 : xF64} {uF5 : Int32} {uF6 : Int32} {uF7 : Int32} {uF8 : xF32} {uF9 : Int32} {uF10 : Int32} {uF11 : Int64} {uF12 : xF32} {uF13 : Int32} {uF14 : Int32} {uF15 : Int32} {uF16 : xF32} {uF17 : xF32} {uF18 : Int32} {rr : Int32} (hf : f_X8_isParty x1 uF1 = some rr) : xMi l κ yX8_isParty cX8_isParty 2 (some .boolean) (xR 1 0 0) [.ref (xAd κ 245), .int x1] (wA, wT, wG, wM, (uF0, uF1, uF2, uF3, uF4, uF5, uF6, uF7, uF8, uF9, uF10, uF11, uF12, uF13, uF14, uF15, uF16, uF17, uF18), wO) (wA, wT, wG, wM, (uF0, uF1, uF2, uF3, uF4, uF5, uF6, uF7, uF8, uF9, uF10, uF11, uF12, uF13, uF14, uF15, uF16, uF17, uF18), wO) rr := by
  unfold f_X8_isParty at hf
  refine xMi_of pn_X8 (Nat.le_of_ble_eq_true rfl) ⟨rfl, rfl⟩ ?_
  intro A p e s m args below meth c ls Q hc hw hl K
  have hc : xC κ A p s m args meth c cX8_isParty RX8 2 (some .boolean) := hc
  have hx := hc.1.1
  have hb := hc.1.2.1
  have hl : lv_has ls 2 [(0, .ref (xAd κ 245)), (1, .int x1)] := hl
  refine lv_iload_n hx hb dX8_isParty_0 rfl (lv_at hl 1 rfl) ?_
  refine lv_iconst (v := 0) hx hb dX8_isParty_1 (by decide) ?_
  refine lv_aload_n hx hb dX8_isParty_2 rfl (lv_at hl 0 rfl) ?_
  obtain ⟨v1, h2, hf⟩ := xb1_of hf
  refine x_calliV (As := []) (rest := [.int 0, .int x1]) (σ' := (wA, wT, wG, wM, (uF0, uF1, uF2, uF3, uF4, uF5, uF6, uF7, uF8, uF9, uF10, uF11, uF12, uF13, uF14, uF15, uF16, uF17, uF18), wO)) hc hw hl.1 (m_X8_parties h2) kX8_59 co_245 rfl rfl ⟨rfl, rfl⟩ ⟨Nat.le_of_ble_eq_true rfl, Nat.le_of_ble_eq_true rfl⟩ ⟨Nat.zero_le _, Nat.zero_le _⟩ (Nat.le_of_ble_eq_true rfl) dX8_isParty_3 (fun H locs hw => ?_)
  refine lv_iconst (v := 1) hx hb dX8_isParty_6 (by decide) ?_
  refine lv_isub hx hb dX8_isParty_7 ?_
  obtain ⟨v3, h4, hf⟩ := xb1_of hf
  refine x_calliS (As := [.int x1, .int 0, .int (v1 - 1)]) (rest := []) (σ' := (wA, wT, wG, wM, (uF0, uF1, uF2, uF3, uF4, uF5, uF6, uF7, uF8, uF9, uF10, uF11, uF12, uF13, uF14, uF15, uF16, uF17, uF18), wO)) hc hw hl.1 (m_X8_in h4) kX8_63 rfl rfl ⟨rfl, rfl⟩ ⟨Nat.le_of_ble_eq_true rfl, Nat.le_of_ble_eq_true rfl⟩ ⟨Nat.zero_le _, Nat.zero_le _⟩ (Nat.le_of_ble_eq_true rfl) dX8_isParty_8 (fun H locs hw => ?_)
  obtain ⟨k5, hf⟩ := xk_of hf
  cases hf
  exact K _ _ _ _ dX8_isParty_11 (xisb_n k5).1 hw
def f_X8_isClaim (x1 : Int32) (uF1 : xF64) : Option Int32 :=
  xb1 (f_X8_claims uF1) fun v1 => (xb1 (f_X8_in x1 0 (v1 - 1)) fun v3 => (xk (xisb v3) (some v3)))
set_option maxHeartbeats 4000000 in
set_option maxRecDepth 100000 in
theorem m_X8_isClaim {l : Launch} {κ : xKt} {wA : Nat → sAcc} {wT : sTxt} {wG : sRng} {wM : sMai} {wO : sOut}  {x1 : Int32} {uF0 : Int32} {uF1 : xF64} {uF2 : xF64} {uF3 : xF64} {uF4 : xF64} {uF5 : Int32} {uF6 : Int32} {uF7 : Int32} {uF8 : xF32} {uF9 : Int32} {uF10 : Int32} {uF11 : Int64} {uF12 : xF32} {uF13 : Int32} {uF14 : Int32} {uF15 : Int32} {uF16 : xF32} {uF17 : xF32} {uF18 : Int32} {rr : Int32} (hf : f_X8_isClaim x1 uF1 = some rr) : xMi l κ yX8_isClaim cX8_isClaim 2 (some .boolean) (xR 1 0 0) [.ref (xAd κ 245), .int x1] (wA, wT, wG, wM, (uF0, uF1, uF2, uF3, uF4, uF5, uF6, uF7, uF8, uF9, uF10, uF11, uF12, uF13, uF14, uF15, uF16, uF17, uF18), wO) (wA, wT, wG, wM, (uF0, uF1, uF2, uF3, uF4, uF5, uF6, uF7, uF8, uF9, uF10, uF11, uF12, uF13, uF14, uF15, uF16, uF17, uF18), wO) rr := by
  unfold f_X8_isClaim at hf
  refine xMi_of pn_X8 (Nat.le_of_ble_eq_true rfl) ⟨rfl, rfl⟩ ?_
  intro A p e s m args below meth c ls Q hc hw hl K
  have hc : xC κ A p s m args meth c cX8_isClaim RX8 2 (some .boolean) := hc
  have hx := hc.1.1
  have hb := hc.1.2.1
  have hl : lv_has ls 2 [(0, .ref (xAd κ 245)), (1, .int x1)] := hl
  refine lv_iload_n hx hb dX8_isClaim_0 rfl (lv_at hl 1 rfl) ?_
  refine lv_iconst (v := 0) hx hb dX8_isClaim_1 (by decide) ?_
  refine lv_aload_n hx hb dX8_isClaim_2 rfl (lv_at hl 0 rfl) ?_
  obtain ⟨v1, h2, hf⟩ := xb1_of hf
  refine x_calliV (As := []) (rest := [.int 0, .int x1]) (σ' := (wA, wT, wG, wM, (uF0, uF1, uF2, uF3, uF4, uF5, uF6, uF7, uF8, uF9, uF10, uF11, uF12, uF13, uF14, uF15, uF16, uF17, uF18), wO)) hc hw hl.1 (m_X8_claims h2) kX8_67 co_245 rfl rfl ⟨rfl, rfl⟩ ⟨Nat.le_of_ble_eq_true rfl, Nat.le_of_ble_eq_true rfl⟩ ⟨Nat.zero_le _, Nat.zero_le _⟩ (Nat.le_of_ble_eq_true rfl) dX8_isClaim_3 (fun H locs hw => ?_)
  refine lv_iconst (v := 1) hx hb dX8_isClaim_6 (by decide) ?_
  refine lv_isub hx hb dX8_isClaim_7 ?_
  obtain ⟨v3, h4, hf⟩ := xb1_of hf
  refine x_calliS (As := [.int x1, .int 0, .int (v1 - 1)]) (rest := []) (σ' := (wA, wT, wG, wM, (uF0, uF1, uF2, uF3, uF4, uF5, uF6, uF7, uF8, uF9, uF10, uF11, uF12, uF13, uF14, uF15, uF16, uF17, uF18), wO)) hc hw hl.1 (m_X8_in h4) kX8_63 rfl rfl ⟨rfl, rfl⟩ ⟨Nat.le_of_ble_eq_true rfl, Nat.le_of_ble_eq_true rfl⟩ ⟨Nat.zero_le _, Nat.zero_le _⟩ (Nat.le_of_ble_eq_true rfl) dX8_isClaim_8 (fun H locs hw => ?_)
  obtain ⟨k5, hf⟩ := xk_of hf
  cases hf
  exact K _ _ _ _ dX8_isClaim_11 (xisb_n k5).1 hw
def f_X8_isDebt (x1 : Int32) (uF1 : xF64) : Option Int32 :=
  xb1 (f_X8_debts uF1) fun v1 => (xb1 (f_X8_in x1 0 (v1 - 1)) fun v3 => (xk (xisb v3) (some v3)))
set_option maxHeartbeats 4000000 in
set_option maxRecDepth 100000 in
theorem m_X8_isDebt {l : Launch} {κ : xKt} {wA : Nat → sAcc} {wT : sTxt} {wG : sRng} {wM : sMai} {wO : sOut}  {x1 : Int32} {uF0 : Int32} {uF1 : xF64} {uF2 : xF64} {uF3 : xF64} {uF4 : xF64} {uF5 : Int32} {uF6 : Int32} {uF7 : Int32} {uF8 : xF32} {uF9 : Int32} {uF10 : Int32} {uF11 : Int64} {uF12 : xF32} {uF13 : Int32} {uF14 : Int32} {uF15 : Int32} {uF16 : xF32} {uF17 : xF32} {uF18 : Int32} {rr : Int32} (hf : f_X8_isDebt x1 uF1 = some rr) : xMi l κ yX8_isDebt cX8_isDebt 2 (some .boolean) (xR 1 0 0) [.ref (xAd κ 245), .int x1] (wA, wT, wG, wM, (uF0, uF1, uF2, uF3, uF4, uF5, uF6, uF7, uF8, uF9, uF10, uF11, uF12, uF13, uF14, uF15, uF16, uF17, uF18), wO) (wA, wT, wG, wM, (uF0, uF1, uF2, uF3, uF4, uF5, uF6, uF7, uF8, uF9, uF10, uF11, uF12, uF13, uF14, uF15, uF16, uF17, uF18), wO) rr := by
  unfold f_X8_isDebt at hf
  refine xMi_of pn_X8 (Nat.le_of_ble_eq_true rfl) ⟨rfl, rfl⟩ ?_
  intro A p e s m args below meth c ls Q hc hw hl K
  have hc : xC κ A p s m args meth c cX8_isDebt RX8 2 (some .boolean) := hc
  have hx := hc.1.1
  have hb := hc.1.2.1
  have hl : lv_has ls 2 [(0, .ref (xAd κ 245)), (1, .int x1)] := hl
  refine lv_iload_n hx hb dX8_isDebt_0 rfl (lv_at hl 1 rfl) ?_
  refine lv_iconst (v := 0) hx hb dX8_isDebt_1 (by decide) ?_
  refine lv_aload_n hx hb dX8_isDebt_2 rfl (lv_at hl 0 rfl) ?_
  obtain ⟨v1, h2, hf⟩ := xb1_of hf
  refine x_calliV (As := []) (rest := [.int 0, .int x1]) (σ' := (wA, wT, wG, wM, (uF0, uF1, uF2, uF3, uF4, uF5, uF6, uF7, uF8, uF9, uF10, uF11, uF12, uF13, uF14, uF15, uF16, uF17, uF18), wO)) hc hw hl.1 (m_X8_debts h2) kX8_70 co_245 rfl rfl ⟨rfl, rfl⟩ ⟨Nat.le_of_ble_eq_true rfl, Nat.le_of_ble_eq_true rfl⟩ ⟨Nat.zero_le _, Nat.zero_le _⟩ (Nat.le_of_ble_eq_true rfl) dX8_isDebt_3 (fun H locs hw => ?_)
  refine lv_iconst (v := 1) hx hb dX8_isDebt_6 (by decide) ?_
  refine lv_isub hx hb dX8_isDebt_7 ?_
  obtain ⟨v3, h4, hf⟩ := xb1_of hf
  refine x_calliS (As := [.int x1, .int 0, .int (v1 - 1)]) (rest := []) (σ' := (wA, wT, wG, wM, (uF0, uF1, uF2, uF3, uF4, uF5, uF6, uF7, uF8, uF9, uF10, uF11, uF12, uF13, uF14, uF15, uF16, uF17, uF18), wO)) hc hw hl.1 (m_X8_in h4) kX8_63 rfl rfl ⟨rfl, rfl⟩ ⟨Nat.le_of_ble_eq_true rfl, Nat.le_of_ble_eq_true rfl⟩ ⟨Nat.zero_le _, Nat.zero_le _⟩ (Nat.le_of_ble_eq_true rfl) dX8_isDebt_8 (fun H locs hw => ?_)
  obtain ⟨k5, hf⟩ := xk_of hf
  cases hf
  exact K _ _ _ _ dX8_isDebt_11 (xisb_n k5).1 hw
def f_X8_claimAt (x1 : Int32) (x2 : Int32) : Option Int32 :=
  some (((50 + (6 * x1)) + x2))
set_option maxHeartbeats 4000000 in
set_option maxRecDepth 100000 in
theorem m_X8_claimAt {l : Launch} {κ : xKt} {wA : Nat → sAcc} {wT : sTxt} {wG : sRng} {wM : sMai} {wO : sOut}  {x1 : Int32} {x2 : Int32} {uF0 : Int32} {uF1 : xF64} {uF2 : xF64} {uF3 : xF64} {uF4 : xF64} {uF5 : Int32} {uF6 : Int32} {uF7 : Int32} {uF8 : xF32} {uF9 : Int32} {uF10 : Int32} {uF11 : Int64} {uF12 : xF32} {uF13 : Int32} {uF14 : Int32} {uF15 : Int32} {uF16 : xF32} {uF17 : xF32} {uF18 : Int32} {rr : Int32} (hf : f_X8_claimAt x1 x2 = some rr) : xMi l κ yX8_claimAt cX8_claimAt 3 (some .int) (xR 0 0 0) [.ref (xAd κ 245), .int x1, .int x2] (wA, wT, wG, wM, (uF0, uF1, uF2, uF3, uF4, uF5, uF6, uF7, uF8, uF9, uF10, uF11, uF12, uF13, uF14, uF15, uF16, uF17, uF18), wO) (wA, wT, wG, wM, (uF0, uF1, uF2, uF3, uF4, uF5, uF6, uF7, uF8, uF9, uF10, uF11, uF12, uF13, uF14, uF15, uF16, uF17, uF18), wO) rr := by
  unfold f_X8_claimAt at hf
  refine xMi_of pn_X8 (Nat.le_of_ble_eq_true rfl) ⟨rfl, rfl⟩ ?_
  intro A p e s m args below meth c ls Q hc hw hl K
  have hc : xC κ A p s m args meth c cX8_claimAt RX8 3 (some .int) := hc
  have hx := hc.1.1
  have hb := hc.1.2.1
  have hl : lv_has ls 3 [(0, .ref (xAd κ 245)), (1, .int x1), (2, .int x2)] := hl
  refine lv_bipush (v := 50) hx hb dX8_claimAt_0 (by decide) ?_
  refine lv_bipush (v := 6) hx hb dX8_claimAt_2 (by decide) ?_
  refine lv_iload_n hx hb dX8_claimAt_4 rfl (lv_at hl 1 rfl) ?_
  refine lv_imul hx hb dX8_claimAt_5 ?_
  refine lv_iadd hx hb dX8_claimAt_6 ?_
  refine lv_iload_n hx hb dX8_claimAt_7 rfl (lv_at hl 2 rfl) ?_
  refine lv_iadd hx hb dX8_claimAt_8 ?_
  cases hf
  exact K _ _ _ _ dX8_claimAt_9 rfl hw
def f_X8_debtAt (x1 : Int32) (x2 : Int32) : Option Int32 :=
  some (((122 + (5 * x1)) + x2))
set_option maxHeartbeats 4000000 in
set_option maxRecDepth 100000 in
theorem m_X8_debtAt {l : Launch} {κ : xKt} {wA : Nat → sAcc} {wT : sTxt} {wG : sRng} {wM : sMai} {wO : sOut}  {x1 : Int32} {x2 : Int32} {uF0 : Int32} {uF1 : xF64} {uF2 : xF64} {uF3 : xF64} {uF4 : xF64} {uF5 : Int32} {uF6 : Int32} {uF7 : Int32} {uF8 : xF32} {uF9 : Int32} {uF10 : Int32} {uF11 : Int64} {uF12 : xF32} {uF13 : Int32} {uF14 : Int32} {uF15 : Int32} {uF16 : xF32} {uF17 : xF32} {uF18 : Int32} {rr : Int32} (hf : f_X8_debtAt x1 x2 = some rr) : xMi l κ yX8_debtAt cX8_debtAt 3 (some .int) (xR 0 0 0) [.ref (xAd κ 245), .int x1, .int x2] (wA, wT, wG, wM, (uF0, uF1, uF2, uF3, uF4, uF5, uF6, uF7, uF8, uF9, uF10, uF11, uF12, uF13, uF14, uF15, uF16, uF17, uF18), wO) (wA, wT, wG, wM, (uF0, uF1, uF2, uF3, uF4, uF5, uF6, uF7, uF8, uF9, uF10, uF11, uF12, uF13, uF14, uF15, uF16, uF17, uF18), wO) rr := by
  unfold f_X8_debtAt at hf
  refine xMi_of pn_X8 (Nat.le_of_ble_eq_true rfl) ⟨rfl, rfl⟩ ?_
  intro A p e s m args below meth c ls Q hc hw hl K
  have hc : xC κ A p s m args meth c cX8_debtAt RX8 3 (some .int) := hc
  have hx := hc.1.1
  have hb := hc.1.2.1
  have hl : lv_has ls 3 [(0, .ref (xAd κ 245)), (1, .int x1), (2, .int x2)] := hl
  refine lv_bipush (v := 122) hx hb dX8_debtAt_0 (by decide) ?_
  refine lv_iconst (v := 5) hx hb dX8_debtAt_2 (by decide) ?_
  refine lv_iload_n hx hb dX8_debtAt_3 rfl (lv_at hl 1 rfl) ?_
  refine lv_imul hx hb dX8_debtAt_4 ?_
  refine lv_iadd hx hb dX8_debtAt_5 ?_
  refine lv_iload_n hx hb dX8_debtAt_6 rfl (lv_at hl 2 rfl) ?_
  refine lv_iadd hx hb dX8_debtAt_7 ?_
  cases hf
  exact K _ _ _ _ dX8_debtAt_8 rfl hw
def f_X8_remembers_2 (fu : Nat) (uF1 : xF64) : Nat → (Int32) → (xF64) → Option xF64
  | 0, _, _ => none
  | n + 1, x1, uF3 => if 304 ≤ x1 then (some uF3) else (xk (xin x1 304) (xk (xin x1 304) (f_X8_remembers_2 fu uF1 n (x1 + 1) (vp_updL uF3 x1.toNatClampNeg (uF1 x1.toNatClampNeg)))))
def f_X8_remembers (fu : Nat) (uF1 : xF64) (uF3 : xF64) : Option xF64 :=
  f_X8_remembers_2 fu uF1 fu 0 uF3
set_option maxHeartbeats 4000000 in
set_option maxRecDepth 100000 in
theorem l_X8_remembers_2 {l : Launch} {κ : xKt} {wA : Nat → sAcc} {wT : sTxt} {wG : sRng} {wM : sMai} {wO : sOut} {fu : Nat} {uF0 : Int32} {uF1 : xF64} {uF2 : xF64} {uF4 : xF64} {uF5 : Int32} {uF6 : Int32} {uF7 : Int32} {uF8 : xF32} {uF9 : Int32} {uF10 : Int32} {uF11 : Int64} {uF12 : xF32} {uF13 : Int32} {uF14 : Int32} {uF15 : Int32} {uF16 : xF32} {uF17 : xF32} {uF18 : Int32} {A : Nat → Prop} {p : Program} {e : Env} {s : State} {m : MethodId} {args : Array Value} {below : List Frame} {meth : Method} {c : Code} {Q : State → Prop} {yF3 : xF64}
    (hc : xC κ A p s m args meth c cX8_remembers RX8 2 none)
    (K : ∀ (pc : Nat) (ls : Array Slot) (H : Heap) (locs : List Loc), decode cX8_remembers pc = .ok (.return_, 1) → xW κ A s (wA, wT, wG, wM, (uF0, uF1, uF2, yF3, uF4, uF5, uF6, uF7, uF8, uF9, uF10, uF11, uF12, uF13, uF14, uF15, uF16, uF17, uF18), wO) H locs → W p l e (xR 0 0 0) s m args below meth c H locs 0 0 Q (F0 m pc ls [])) :
    ∀ (n : Nat) (x1 : Int32) (uF3 : xF64) (H : Heap) (locs : List Loc) (ls : Array Slot), f_X8_remembers_2 fu uF1 n x1 uF3 = some yF3 → xW κ A s (wA, wT, wG, wM, (uF0, uF1, uF2, uF3, uF4, uF5, uF6, uF7, uF8, uF9, uF10, uF11, uF12, uF13, uF14, uF15, uF16, uF17, uF18), wO) H locs → lv_has ls 2 [(0, .ref (xAd κ 245)), (1, .int x1)] → W p l e (xR 0 0 0) s m args below meth c H locs 0 0 Q (F0 m 2 ls []) := by
  have hx := hc.1.1
  have hb := hc.1.2.1
  intro n
  induction n with
  | zero =>
    intro x1 uF3 H locs ls hf
    rw [f_X8_remembers_2] at hf
    cases hf
  | succ n hi =>
    intro x1 uF3 H locs ls hf hw hl
    rw [f_X8_remembers_2] at hf
    refine lv_iload_n hx hb dX8_remembers_2 rfl (lv_at hl 1 rfl) ?_
    refine lv_sipush (v := 304) hx hb dX8_remembers_3 (by decide) ?_
    refine lv_icmp_ge (tgt := 27) hx hb dX8_remembers_6 (by decide) (fun c1 => ?_) (fun c1 => ?_)
    · have hf := xif_t c1 hf
      cases hf
      exact K _ _ _ _ dX8_remembers_27 hw
    · have hf := xif_f c1 hf
      refine lv_aload_n hx hb dX8_remembers_9 rfl (lv_at hl 0 rfl) ?_
      refine x_get (v := .ref (xAd κ 248)) hc hw co_245 fX8_16 rfl dX8_remembers_10 ?_
      refine lv_iload_n hx hb dX8_remembers_13 rfl (lv_at hl 1 rfl) ?_
      refine lv_aload_n hx hb dX8_remembers_14 rfl (lv_at hl 0 rfl) ?_
      refine x_get (v := .ref (xAd κ 246)) hc hw co_245 fX8_7 rfl dX8_remembers_15 ?_
      refine lv_iload_n hx hb dX8_remembers_18 rfl (lv_at hl 1 rfl) ?_
      obtain ⟨k2, hf⟩ := xk_of hf
      refine x_lald (n := 304) (f := uF1) hc hw co_246 k2 dX8_remembers_19 ?_
      obtain ⟨k3, hf⟩ := xk_of hf
      refine x_last (n := 304) (f := uF3) (σ' := (wA, wT, wG, wM, (uF0, uF1, uF2, (vp_updL uF3 x1.toNatClampNeg (uF1 x1.toNatClampNeg)), uF4, uF5, uF6, uF7, uF8, uF9, uF10, uF11, uF12, uF13, uF14, uF15, uF16, uF17, uF18), wO)) hc hw co_248 k3 so_F_3 dX8_remembers_20 (fun H locs hw => ?_)
      refine lv_iinc (v := (x1 + 1)) (lv' := [(1, .int (x1 + 1)), (0, .ref (xAd κ 245))]) hx hb dX8_remembers_21 hl (k := 1) rfl rfl (by decide) rfl (fun ls hl => ?_)
      refine lv_goto (tgt := 2) hx hb dX8_remembers_24 (by decide) ?_
      exact hi _ _ _ _ _ hf hw (lv_sub hl [1, 0] rfl)
set_option maxHeartbeats 4000000 in
set_option maxRecDepth 100000 in
theorem m_X8_remembers {l : Launch} {κ : xKt} {wA : Nat → sAcc} {wT : sTxt} {wG : sRng} {wM : sMai} {wO : sOut} {fu : Nat} {uF0 : Int32} {uF1 : xF64} {uF2 : xF64} {uF3 : xF64} {uF4 : xF64} {uF5 : Int32} {uF6 : Int32} {uF7 : Int32} {uF8 : xF32} {uF9 : Int32} {uF10 : Int32} {uF11 : Int64} {uF12 : xF32} {uF13 : Int32} {uF14 : Int32} {uF15 : Int32} {uF16 : xF32} {uF17 : xF32} {uF18 : Int32} {yF3 : xF64} (hf : f_X8_remembers fu uF1 uF3 = some yF3) : xMv l κ yX8_remembers cX8_remembers 2 none (xR 0 0 0) [.ref (xAd κ 245)] (wA, wT, wG, wM, (uF0, uF1, uF2, uF3, uF4, uF5, uF6, uF7, uF8, uF9, uF10, uF11, uF12, uF13, uF14, uF15, uF16, uF17, uF18), wO) (wA, wT, wG, wM, (uF0, uF1, uF2, yF3, uF4, uF5, uF6, uF7, uF8, uF9, uF10, uF11, uF12, uF13, uF14, uF15, uF16, uF17, uF18), wO) := by
  unfold f_X8_remembers at hf
  refine xMv_of pn_X8 (Nat.le_of_ble_eq_true rfl) ⟨rfl, rfl⟩ ?_
  intro A p e s m args below meth c ls Q hc hw hl K
  have hc : xC κ A p s m args meth c cX8_remembers RX8 2 none := hc
  have hx := hc.1.1
  have hb := hc.1.2.1
  have hl : lv_has ls 2 [(0, .ref (xAd κ 245))] := hl
  refine lv_iconst (v := 0) hx hb dX8_remembers_0 (by decide) ?_
  refine lv_istore_n (lv' := [(1, .int 0), (0, .ref (xAd κ 245))]) hx hb dX8_remembers_1 rfl hl (by decide) rfl (fun ls hl => ?_)
  exact l_X8_remembers_2 hc K fu _ _ _ _ _ hf hw (lv_sub hl [1, 0] rfl)
def f_X8_keeps_55 (fu : Nat) (uF3 : xF64) : Nat → (Int32) → (xF64) → (Int32) → Option (xF64 × Int32)
  | 0, _, _, _ => none
  | n + 1, x1, uF4, uF5 => if 304 ≤ x1 then (some (uF4, uF5)) else (xk (xin x1 304) (xk (xin ((304 * (uF5 - 1)) + x1) 1824) (f_X8_keeps_55 fu uF3 n (x1 + 1) (vp_updL uF4 ((304 * (uF5 - 1)) + x1).toNatClampNeg (uF3 x1.toNatClampNeg)) uF5)))
def f_X8_keeps_11 (fu : Nat) (uF3 : xF64) : Nat → (Int32) → (xF64) → (Int32) → Option (xF64 × Int32)
  | 0, _, _, _ => none
  | n + 1, x1, uF4, uF5 => if 1520 ≤ x1 then (f_X8_keeps_55 fu uF3 fu 0 uF4 uF5) else (xk (xin (x1 + 304) 1824) (xk (xin x1 1824) (f_X8_keeps_11 fu uF3 n (x1 + 1) (vp_updL uF4 x1.toNatClampNeg (uF4 (x1 + 304).toNatClampNeg)) uF5)))
def f_X8_keeps (fu : Nat) (uF3 : xF64) (uF4 : xF64) (uF5 : Int32) : Option (xF64 × Int32) :=
  if uF5 = 6 then (f_X8_keeps_11 fu uF3 fu 0 uF4 uF5) else (f_X8_keeps_55 fu uF3 fu 0 uF4 (uF5 + 1))
set_option maxHeartbeats 4000000 in
set_option maxRecDepth 100000 in
theorem l_X8_keeps_55 {l : Launch} {κ : xKt} {wA : Nat → sAcc} {wT : sTxt} {wG : sRng} {wM : sMai} {wO : sOut} {fu : Nat} {uF0 : Int32} {uF1 : xF64} {uF2 : xF64} {uF3 : xF64} {uF6 : Int32} {uF7 : Int32} {uF8 : xF32} {uF9 : Int32} {uF10 : Int32} {uF11 : Int64} {uF12 : xF32} {uF13 : Int32} {uF14 : Int32} {uF15 : Int32} {uF16 : xF32} {uF17 : xF32} {uF18 : Int32} {A : Nat → Prop} {p : Program} {e : Env} {s : State} {m : MethodId} {args : Array Value} {below : List Frame} {meth : Method} {c : Code} {Q : State → Prop} {yF4 : xF64} {yF5 : Int32}
    (hc : xC κ A p s m args meth c cX8_keeps RX8 2 none)
    (K : ∀ (pc : Nat) (ls : Array Slot) (H : Heap) (locs : List Loc), decode cX8_keeps pc = .ok (.return_, 1) → xW κ A s (wA, wT, wG, wM, (uF0, uF1, uF2, uF3, yF4, yF5, uF6, uF7, uF8, uF9, uF10, uF11, uF12, uF13, uF14, uF15, uF16, uF17, uF18), wO) H locs → W p l e (xR 0 0 0) s m args below meth c H locs 0 0 Q (F0 m pc ls [])) :
    ∀ (n : Nat) (x1 : Int32) (uF4 : xF64) (uF5 : Int32) (H : Heap) (locs : List Loc) (ls : Array Slot), f_X8_keeps_55 fu uF3 n x1 uF4 uF5 = some (yF4, yF5) → xW κ A s (wA, wT, wG, wM, (uF0, uF1, uF2, uF3, uF4, uF5, uF6, uF7, uF8, uF9, uF10, uF11, uF12, uF13, uF14, uF15, uF16, uF17, uF18), wO) H locs → lv_has ls 2 [(0, .ref (xAd κ 245)), (1, .int x1)] → W p l e (xR 0 0 0) s m args below meth c H locs 0 0 Q (F0 m 55 ls []) := by
  have hx := hc.1.1
  have hb := hc.1.2.1
  intro n
  induction n with
  | zero =>
    intro x1 uF4 uF5 H locs ls hf
    rw [f_X8_keeps_55] at hf
    cases hf
  | succ n hi =>
    intro x1 uF4 uF5 H locs ls hf hw hl
    rw [f_X8_keeps_55] at hf
    refine lv_iload_n hx hb dX8_keeps_55 rfl (lv_at hl 1 rfl) ?_
    refine lv_sipush (v := 304) hx hb dX8_keeps_56 (by decide) ?_
    refine lv_icmp_ge (tgt := 91) hx hb dX8_keeps_59 (by decide) (fun c2 => ?_) (fun c2 => ?_)
    · have hf := xif_t c2 hf
      cases hf
      exact K _ _ _ _ dX8_keeps_91 hw
    · have hf := xif_f c2 hf
      refine lv_aload_n hx hb dX8_keeps_62 rfl (lv_at hl 0 rfl) ?_
      refine x_get (v := .ref (xAd κ 249)) hc hw co_245 fX8_19 rfl dX8_keeps_63 ?_
      refine lv_sipush (v := 304) hx hb dX8_keeps_66 (by decide) ?_
      refine lv_aload_n hx hb dX8_keeps_69 rfl (lv_at hl 0 rfl) ?_
      refine x_get (v := .int uF5) hc hw co_245 fX8_73 rfl dX8_keeps_70 ?_
      refine lv_iconst (v := 1) hx hb dX8_keeps_73 (by decide) ?_
      refine lv_isub hx hb dX8_keeps_74 ?_
      refine lv_imul hx hb dX8_keeps_75 ?_
      refine lv_iload_n hx hb dX8_keeps_76 rfl (lv_at hl 1 rfl) ?_
      refine lv_iadd hx hb dX8_keeps_77 ?_
      refine lv_aload_n hx hb dX8_keeps_78 rfl (lv_at hl 0 rfl) ?_
      refine x_get (v := .ref (xAd κ 248)) hc hw co_245 fX8_16 rfl dX8_keeps_79 ?_
      refine lv_iload_n hx hb dX8_keeps_82 rfl (lv_at hl 1 rfl) ?_
      obtain ⟨k3, hf⟩ := xk_of hf
      refine x_lald (n := 304) (f := uF3) hc hw co_248 k3 dX8_keeps_83 ?_
      obtain ⟨k4, hf⟩ := xk_of hf
      refine x_last (n := 1824) (f := uF4) (σ' := (wA, wT, wG, wM, (uF0, uF1, uF2, uF3, (vp_updL uF4 ((304 * (uF5 - 1)) + x1).toNatClampNeg (uF3 x1.toNatClampNeg)), uF5, uF6, uF7, uF8, uF9, uF10, uF11, uF12, uF13, uF14, uF15, uF16, uF17, uF18), wO)) hc hw co_249 k4 so_F_4 dX8_keeps_84 (fun H locs hw => ?_)
      refine lv_iinc (v := (x1 + 1)) (lv' := [(1, .int (x1 + 1)), (0, .ref (xAd κ 245))]) hx hb dX8_keeps_85 hl (k := 1) rfl rfl (by decide) rfl (fun ls hl => ?_)
      refine lv_goto (tgt := 55) hx hb dX8_keeps_88 (by decide) ?_
      exact hi _ _ _ _ _ _ hf hw (lv_sub hl [1, 0] rfl)
set_option maxHeartbeats 4000000 in
set_option maxRecDepth 100000 in
theorem l_X8_keeps_11 {l : Launch} {κ : xKt} {wA : Nat → sAcc} {wT : sTxt} {wG : sRng} {wM : sMai} {wO : sOut} {fu : Nat} {uF0 : Int32} {uF1 : xF64} {uF2 : xF64} {uF3 : xF64} {uF6 : Int32} {uF7 : Int32} {uF8 : xF32} {uF9 : Int32} {uF10 : Int32} {uF11 : Int64} {uF12 : xF32} {uF13 : Int32} {uF14 : Int32} {uF15 : Int32} {uF16 : xF32} {uF17 : xF32} {uF18 : Int32} {A : Nat → Prop} {p : Program} {e : Env} {s : State} {m : MethodId} {args : Array Value} {below : List Frame} {meth : Method} {c : Code} {Q : State → Prop} {yF4 : xF64} {yF5 : Int32}
    (hc : xC κ A p s m args meth c cX8_keeps RX8 2 none)
    (K : ∀ (pc : Nat) (ls : Array Slot) (H : Heap) (locs : List Loc), decode cX8_keeps pc = .ok (.return_, 1) → xW κ A s (wA, wT, wG, wM, (uF0, uF1, uF2, uF3, yF4, yF5, uF6, uF7, uF8, uF9, uF10, uF11, uF12, uF13, uF14, uF15, uF16, uF17, uF18), wO) H locs → W p l e (xR 0 0 0) s m args below meth c H locs 0 0 Q (F0 m pc ls [])) :
    ∀ (n : Nat) (x1 : Int32) (uF4 : xF64) (uF5 : Int32) (H : Heap) (locs : List Loc) (ls : Array Slot), f_X8_keeps_11 fu uF3 n x1 uF4 uF5 = some (yF4, yF5) → xW κ A s (wA, wT, wG, wM, (uF0, uF1, uF2, uF3, uF4, uF5, uF6, uF7, uF8, uF9, uF10, uF11, uF12, uF13, uF14, uF15, uF16, uF17, uF18), wO) H locs → lv_has ls 2 [(0, .ref (xAd κ 245)), (1, .int x1)] → W p l e (xR 0 0 0) s m args below meth c H locs 0 0 Q (F0 m 11 ls []) := by
  have hx := hc.1.1
  have hb := hc.1.2.1
  intro n
  induction n with
  | zero =>
    intro x1 uF4 uF5 H locs ls hf
    rw [f_X8_keeps_11] at hf
    cases hf
  | succ n hi =>
    intro x1 uF4 uF5 H locs ls hf hw hl
    rw [f_X8_keeps_11] at hf
    refine lv_iload_n hx hb dX8_keeps_11 rfl (lv_at hl 1 rfl) ?_
    refine lv_sipush (v := 1520) hx hb dX8_keeps_12 (by decide) ?_
    refine lv_icmp_ge (tgt := 40) hx hb dX8_keeps_15 (by decide) (fun c5 => ?_) (fun c5 => ?_)
    · have hf := xif_t c5 hf
      refine lv_goto (tgt := 53) hx hb dX8_keeps_40 (by decide) ?_
      refine lv_iconst (v := 0) hx hb dX8_keeps_53 (by decide) ?_
      refine lv_istore_n (lv' := [(1, .int 0), (0, .ref (xAd κ 245))]) hx hb dX8_keeps_54 rfl hl (by decide) rfl (fun ls hl => ?_)
      exact l_X8_keeps_55 hc K fu _ _ _ _ _ _ hf hw (lv_sub hl [1, 0] rfl)
    · have hf := xif_f c5 hf
      refine lv_aload_n hx hb dX8_keeps_18 rfl (lv_at hl 0 rfl) ?_
      refine x_get (v := .ref (xAd κ 249)) hc hw co_245 fX8_19 rfl dX8_keeps_19 ?_
      refine lv_iload_n hx hb dX8_keeps_22 rfl (lv_at hl 1 rfl) ?_
      refine lv_aload_n hx hb dX8_keeps_23 rfl (lv_at hl 0 rfl) ?_
      refine x_get (v := .ref (xAd κ 249)) hc hw co_245 fX8_19 rfl dX8_keeps_24 ?_
      refine lv_iload_n hx hb dX8_keeps_27 rfl (lv_at hl 1 rfl) ?_
      refine lv_sipush (v := 304) hx hb dX8_keeps_28 (by decide) ?_
      refine lv_iadd hx hb dX8_keeps_31 ?_
      obtain ⟨k6, hf⟩ := xk_of hf
      refine x_lald (n := 1824) (f := uF4) hc hw co_249 k6 dX8_keeps_32 ?_
      obtain ⟨k7, hf⟩ := xk_of hf
      refine x_last (n := 1824) (f := uF4) (σ' := (wA, wT, wG, wM, (uF0, uF1, uF2, uF3, (vp_updL uF4 x1.toNatClampNeg (uF4 (x1 + 304).toNatClampNeg)), uF5, uF6, uF7, uF8, uF9, uF10, uF11, uF12, uF13, uF14, uF15, uF16, uF17, uF18), wO)) hc hw co_249 k7 so_F_4 dX8_keeps_33 (fun H locs hw => ?_)
      refine lv_iinc (v := (x1 + 1)) (lv' := [(1, .int (x1 + 1)), (0, .ref (xAd κ 245))]) hx hb dX8_keeps_34 hl (k := 1) rfl rfl (by decide) rfl (fun ls hl => ?_)
      refine lv_goto (tgt := 11) hx hb dX8_keeps_37 (by decide) ?_
      exact hi _ _ _ _ _ _ hf hw (lv_sub hl [1, 0] rfl)
set_option maxHeartbeats 4000000 in
set_option maxRecDepth 100000 in
theorem m_X8_keeps {l : Launch} {κ : xKt} {wA : Nat → sAcc} {wT : sTxt} {wG : sRng} {wM : sMai} {wO : sOut} {fu : Nat} {uF0 : Int32} {uF1 : xF64} {uF2 : xF64} {uF3 : xF64} {uF4 : xF64} {uF5 : Int32} {uF6 : Int32} {uF7 : Int32} {uF8 : xF32} {uF9 : Int32} {uF10 : Int32} {uF11 : Int64} {uF12 : xF32} {uF13 : Int32} {uF14 : Int32} {uF15 : Int32} {uF16 : xF32} {uF17 : xF32} {uF18 : Int32} {yF4 : xF64} {yF5 : Int32} (hf : f_X8_keeps fu uF3 uF4 uF5 = some (yF4, yF5)) : xMv l κ yX8_keeps cX8_keeps 2 none (xR 0 0 0) [.ref (xAd κ 245)] (wA, wT, wG, wM, (uF0, uF1, uF2, uF3, uF4, uF5, uF6, uF7, uF8, uF9, uF10, uF11, uF12, uF13, uF14, uF15, uF16, uF17, uF18), wO) (wA, wT, wG, wM, (uF0, uF1, uF2, uF3, yF4, yF5, uF6, uF7, uF8, uF9, uF10, uF11, uF12, uF13, uF14, uF15, uF16, uF17, uF18), wO) := by
  unfold f_X8_keeps at hf
  refine xMv_of pn_X8 (Nat.le_of_ble_eq_true rfl) ⟨rfl, rfl⟩ ?_
  intro A p e s m args below meth c ls Q hc hw hl K
  have hc : xC κ A p s m args meth c cX8_keeps RX8 2 none := hc
  have hx := hc.1.1
  have hb := hc.1.2.1
  have hl : lv_has ls 2 [(0, .ref (xAd κ 245))] := hl
  refine lv_aload_n hx hb dX8_keeps_0 rfl (lv_at hl 0 rfl) ?_
  refine x_get (v := .int uF5) hc hw co_245 fX8_73 rfl dX8_keeps_1 ?_
  refine lv_bipush (v := 6) hx hb dX8_keeps_4 (by decide) ?_
  refine lv_icmp_ne (tgt := 43) hx hb dX8_keeps_6 (by decide) (fun c1 => ?_) (fun c1 => ?_)
  · have hf := xif_f c1 hf
    refine lv_aload_n hx hb dX8_keeps_43 rfl (lv_at hl 0 rfl) ?_
    refine lv_dup hx hb dX8_keeps_44 rfl ?_
    refine x_get (v := .int uF5) hc hw co_245 fX8_73 rfl dX8_keeps_45 ?_
    refine lv_iconst (v := 1) hx hb dX8_keeps_48 (by decide) ?_
    refine lv_iadd hx hb dX8_keeps_49 ?_
    refine x_put (σ' := (wA, wT, wG, wM, (uF0, uF1, uF2, uF3, uF4, (uF5 + 1), uF6, uF7, uF8, uF9, uF10, uF11, uF12, uF13, uF14, uF15, uF16, uF17, uF18), wO)) hc hw co_245 fX8_73 rfl rfl (Nat.le_of_ble_eq_true rfl) so_F_5 dX8_keeps_50 (fun H locs hw => ?_)
    refine lv_iconst (v := 0) hx hb dX8_keeps_53 (by decide) ?_
    refine lv_istore_n (lv' := [(1, .int 0), (0, .ref (xAd κ 245))]) hx hb dX8_keeps_54 rfl hl (by decide) rfl (fun ls hl => ?_)
    exact l_X8_keeps_55 hc K fu _ _ _ _ _ _ hf hw (lv_sub hl [1, 0] rfl)
  · have hf := xif_t c1 hf
    refine lv_iconst (v := 0) hx hb dX8_keeps_9 (by decide) ?_
    refine lv_istore_n (lv' := [(1, .int 0), (0, .ref (xAd κ 245))]) hx hb dX8_keeps_10 rfl hl (by decide) rfl (fun ls hl => ?_)
    exact l_X8_keeps_11 hc K fu _ _ _ _ _ _ hf hw (lv_sub hl [1, 0] rfl)
def f_X8_notes_19 (fu : Nat) : Nat → (Int32) → (Int64) → (Int32) → (Int32) → (xF64) → Option xF64
  | 0, _, _, _, _, _ => none
  | n + 1, x1, x2, x4, x5, uF1 => if ((2 * x4) - 2) ≤ x5 then (xk (xin 5 304) (xk (xin ((272 + (2 * x4)) - 2) 304) (xk (xin ((272 + (2 * x4)) - 1) 304) (some ((vp_updL (vp_updL (vp_updL uF1 (5 : Int32).toNatClampNeg x4.toInt64) ((272 + (2 * x4)) - 2).toNatClampNeg x1.toInt64) ((272 + (2 * x4)) - 1).toNatClampNeg x2)))))) else (xk (xin ((272 + x5) + 2) 304) (xk (xin (272 + x5) 304) (f_X8_notes_19 fu n x1 x2 x4 (x5 + 1) (vp_updL uF1 (272 + x5).toNatClampNeg (uF1 ((272 + x5) + 2).toNatClampNeg)))))
def f_X8_notes (fu : Nat) (x1 : Int32) (x2 : Int64) (uF1 : xF64) : Option xF64 :=
  xk (xin 5 304) (if (uF1 (5 : Int32).toNatClampNeg).toInt32 = 16 then (f_X8_notes_19 fu fu x1 x2 (uF1 (5 : Int32).toNatClampNeg).toInt32 0 uF1) else (xk (xin 5 304) (xk (xin ((272 + (2 * ((uF1 (5 : Int32).toNatClampNeg).toInt32 + 1))) - 2) 304) (xk (xin ((272 + (2 * ((uF1 (5 : Int32).toNatClampNeg).toInt32 + 1))) - 1) 304) (some ((vp_updL (vp_updL (vp_updL uF1 (5 : Int32).toNatClampNeg ((uF1 (5 : Int32).toNatClampNeg).toInt32 + 1).toInt64) ((272 + (2 * ((uF1 (5 : Int32).toNatClampNeg).toInt32 + 1))) - 2).toNatClampNeg x1.toInt64) ((272 + (2 * ((uF1 (5 : Int32).toNatClampNeg).toInt32 + 1))) - 1).toNatClampNeg x2)))))))
set_option maxHeartbeats 4000000 in
set_option maxRecDepth 100000 in
theorem l_X8_notes_19 {l : Launch} {κ : xKt} {wA : Nat → sAcc} {wT : sTxt} {wG : sRng} {wM : sMai} {wO : sOut} {fu : Nat} {uF0 : Int32} {uF2 : xF64} {uF3 : xF64} {uF4 : xF64} {uF5 : Int32} {uF6 : Int32} {uF7 : Int32} {uF8 : xF32} {uF9 : Int32} {uF10 : Int32} {uF11 : Int64} {uF12 : xF32} {uF13 : Int32} {uF14 : Int32} {uF15 : Int32} {uF16 : xF32} {uF17 : xF32} {uF18 : Int32} {A : Nat → Prop} {p : Program} {e : Env} {s : State} {m : MethodId} {args : Array Value} {below : List Frame} {meth : Method} {c : Code} {Q : State → Prop} {yF1 : xF64}
    (hc : xC κ A p s m args meth c cX8_notes RX8 6 none)
    (K : ∀ (pc : Nat) (ls : Array Slot) (H : Heap) (locs : List Loc), decode cX8_notes pc = .ok (.return_, 1) → xW κ A s (wA, wT, wG, wM, (uF0, yF1, uF2, uF3, uF4, uF5, uF6, uF7, uF8, uF9, uF10, uF11, uF12, uF13, uF14, uF15, uF16, uF17, uF18), wO) H locs → W p l e (xR 0 0 0) s m args below meth c H locs 0 0 Q (F0 m pc ls [])) :
    ∀ (n : Nat) (x1 : Int32) (x2 : Int64) (x4 : Int32) (x5 : Int32) (uF1 : xF64) (H : Heap) (locs : List Loc) (ls : Array Slot), f_X8_notes_19 fu n x1 x2 x4 x5 uF1 = some yF1 → xW κ A s (wA, wT, wG, wM, (uF0, uF1, uF2, uF3, uF4, uF5, uF6, uF7, uF8, uF9, uF10, uF11, uF12, uF13, uF14, uF15, uF16, uF17, uF18), wO) H locs → lv_has ls 6 [(0, .ref (xAd κ 245)), (1, .int x1), (2, .long x2), (4, .int x4), (5, .int x5)] → W p l e (xR 0 0 0) s m args below meth c H locs 0 0 Q (F0 m 19 ls []) := by
  have hx := hc.1.1
  have hb := hc.1.2.1
  intro n
  induction n with
  | zero =>
    intro x1 x2 x4 x5 uF1 H locs ls hf
    rw [f_X8_notes_19] at hf
    cases hf
  | succ n hi =>
    intro x1 x2 x4 x5 uF1 H locs ls hf hw hl
    rw [f_X8_notes_19] at hf
    refine lv_iload hx hb dX8_notes_19 (lv_at hl 4 rfl) ?_
    refine lv_iconst (v := 2) hx hb dX8_notes_21 (by decide) ?_
    refine lv_iload hx hb dX8_notes_22 (lv_at hl 3 rfl) ?_
    refine lv_imul hx hb dX8_notes_24 ?_
    refine lv_iconst (v := 2) hx hb dX8_notes_25 (by decide) ?_
    refine lv_isub hx hb dX8_notes_26 ?_
    refine lv_icmp_ge (tgt := 60) hx hb dX8_notes_27 (by decide) (fun c6 => ?_) (fun c6 => ?_)
    · have hf := xif_t c6 hf
      refine lv_goto (tgt := 66) hx hb dX8_notes_60 (by decide) ?_
      refine lv_aload_n hx hb dX8_notes_66 rfl (lv_at hl 0 rfl) ?_
      refine x_get (v := .ref (xAd κ 246)) hc hw co_245 fX8_7 rfl dX8_notes_67 ?_
      refine lv_iconst (v := 5) hx hb dX8_notes_70 (by decide) ?_
      refine lv_iload hx hb dX8_notes_71 (lv_at hl 3 rfl) ?_
      refine lv_i2l (v := x4.toInt64) hx hb dX8_notes_73 rfl ?_
      obtain ⟨k7, hf⟩ := xk_of hf
      refine x_last (n := 304) (f := uF1) (σ' := (wA, wT, wG, wM, (uF0, (vp_updL uF1 (5 : Int32).toNatClampNeg x4.toInt64), uF2, uF3, uF4, uF5, uF6, uF7, uF8, uF9, uF10, uF11, uF12, uF13, uF14, uF15, uF16, uF17, uF18), wO)) hc hw co_246 k7 so_F_1 dX8_notes_74 (fun H locs hw => ?_)
      refine lv_aload_n hx hb dX8_notes_75 rfl (lv_at hl 0 rfl) ?_
      refine x_get (v := .ref (xAd κ 246)) hc hw co_245 fX8_7 rfl dX8_notes_76 ?_
      refine lv_sipush (v := 272) hx hb dX8_notes_79 (by decide) ?_
      refine lv_iconst (v := 2) hx hb dX8_notes_82 (by decide) ?_
      refine lv_iload hx hb dX8_notes_83 (lv_at hl 3 rfl) ?_
      refine lv_imul hx hb dX8_notes_85 ?_
      refine lv_iadd hx hb dX8_notes_86 ?_
      refine lv_iconst (v := 2) hx hb dX8_notes_87 (by decide) ?_
      refine lv_isub hx hb dX8_notes_88 ?_
      refine lv_iload_n hx hb dX8_notes_89 rfl (lv_at hl 1 rfl) ?_
      refine lv_i2l (v := x1.toInt64) hx hb dX8_notes_90 rfl ?_
      obtain ⟨k8, hf⟩ := xk_of hf
      refine x_last (n := 304) (f := (vp_updL uF1 (5 : Int32).toNatClampNeg x4.toInt64)) (σ' := (wA, wT, wG, wM, (uF0, (vp_updL (vp_updL uF1 (5 : Int32).toNatClampNeg x4.toInt64) ((272 + (2 * x4)) - 2).toNatClampNeg x1.toInt64), uF2, uF3, uF4, uF5, uF6, uF7, uF8, uF9, uF10, uF11, uF12, uF13, uF14, uF15, uF16, uF17, uF18), wO)) hc hw co_246 k8 so_F_1 dX8_notes_91 (fun H locs hw => ?_)
      refine lv_aload_n hx hb dX8_notes_92 rfl (lv_at hl 0 rfl) ?_
      refine x_get (v := .ref (xAd κ 246)) hc hw co_245 fX8_7 rfl dX8_notes_93 ?_
      refine lv_sipush (v := 272) hx hb dX8_notes_96 (by decide) ?_
      refine lv_iconst (v := 2) hx hb dX8_notes_99 (by decide) ?_
      refine lv_iload hx hb dX8_notes_100 (lv_at hl 3 rfl) ?_
      refine lv_imul hx hb dX8_notes_102 ?_
      refine lv_iadd hx hb dX8_notes_103 ?_
      refine lv_iconst (v := 1) hx hb dX8_notes_104 (by decide) ?_
      refine lv_isub hx hb dX8_notes_105 ?_
      refine lv_lload_n hx hb dX8_notes_106 rfl (lv_at hl 2 rfl) ?_
      obtain ⟨k9, hf⟩ := xk_of hf
      refine x_last (n := 304) (f := (vp_updL (vp_updL uF1 (5 : Int32).toNatClampNeg x4.toInt64) ((272 + (2 * x4)) - 2).toNatClampNeg x1.toInt64)) (σ' := (wA, wT, wG, wM, (uF0, (vp_updL (vp_updL (vp_updL uF1 (5 : Int32).toNatClampNeg x4.toInt64) ((272 + (2 * x4)) - 2).toNatClampNeg x1.toInt64) ((272 + (2 * x4)) - 1).toNatClampNeg x2), uF2, uF3, uF4, uF5, uF6, uF7, uF8, uF9, uF10, uF11, uF12, uF13, uF14, uF15, uF16, uF17, uF18), wO)) hc hw co_246 k9 so_F_1 dX8_notes_107 (fun H locs hw => ?_)
      cases hf
      exact K _ _ _ _ dX8_notes_108 hw
    · have hf := xif_f c6 hf
      refine lv_aload_n hx hb dX8_notes_30 rfl (lv_at hl 0 rfl) ?_
      refine x_get (v := .ref (xAd κ 246)) hc hw co_245 fX8_7 rfl dX8_notes_31 ?_
      refine lv_sipush (v := 272) hx hb dX8_notes_34 (by decide) ?_
      refine lv_iload hx hb dX8_notes_37 (lv_at hl 4 rfl) ?_
      refine lv_iadd hx hb dX8_notes_39 ?_
      refine lv_aload_n hx hb dX8_notes_40 rfl (lv_at hl 0 rfl) ?_
      refine x_get (v := .ref (xAd κ 246)) hc hw co_245 fX8_7 rfl dX8_notes_41 ?_
      refine lv_sipush (v := 272) hx hb dX8_notes_44 (by decide) ?_
      refine lv_iload hx hb dX8_notes_47 (lv_at hl 4 rfl) ?_
      refine lv_iadd hx hb dX8_notes_49 ?_
      refine lv_iconst (v := 2) hx hb dX8_notes_50 (by decide) ?_
      refine lv_iadd hx hb dX8_notes_51 ?_
      obtain ⟨k10, hf⟩ := xk_of hf
      refine x_lald (n := 304) (f := uF1) hc hw co_246 k10 dX8_notes_52 ?_
      obtain ⟨k11, hf⟩ := xk_of hf
      refine x_last (n := 304) (f := uF1) (σ' := (wA, wT, wG, wM, (uF0, (vp_updL uF1 (272 + x5).toNatClampNeg (uF1 ((272 + x5) + 2).toNatClampNeg)), uF2, uF3, uF4, uF5, uF6, uF7, uF8, uF9, uF10, uF11, uF12, uF13, uF14, uF15, uF16, uF17, uF18), wO)) hc hw co_246 k11 so_F_1 dX8_notes_53 (fun H locs hw => ?_)
      refine lv_iinc (v := (x5 + 1)) (lv' := [(5, .int (x5 + 1)), (0, .ref (xAd κ 245)), (1, .int x1), (2, .long x2), (4, .int x4)]) hx hb dX8_notes_54 hl (k := 4) rfl rfl (by decide) rfl (fun ls hl => ?_)
      refine lv_goto (tgt := 19) hx hb dX8_notes_57 (by decide) ?_
      exact hi _ _ _ _ _ _ _ _ hf hw (lv_sub hl [1, 2, 3, 4, 0] rfl)
set_option maxHeartbeats 4000000 in
set_option maxRecDepth 100000 in
theorem m_X8_notes {l : Launch} {κ : xKt} {wA : Nat → sAcc} {wT : sTxt} {wG : sRng} {wM : sMai} {wO : sOut} {fu : Nat} {x1 : Int32} {x2 : Int64} {uF0 : Int32} {uF1 : xF64} {uF2 : xF64} {uF3 : xF64} {uF4 : xF64} {uF5 : Int32} {uF6 : Int32} {uF7 : Int32} {uF8 : xF32} {uF9 : Int32} {uF10 : Int32} {uF11 : Int64} {uF12 : xF32} {uF13 : Int32} {uF14 : Int32} {uF15 : Int32} {uF16 : xF32} {uF17 : xF32} {uF18 : Int32} {yF1 : xF64} (hf : f_X8_notes fu x1 x2 uF1 = some yF1) : xMv l κ yX8_notes cX8_notes 6 none (xR 0 0 0) [.ref (xAd κ 245), .int x1, .long x2] (wA, wT, wG, wM, (uF0, uF1, uF2, uF3, uF4, uF5, uF6, uF7, uF8, uF9, uF10, uF11, uF12, uF13, uF14, uF15, uF16, uF17, uF18), wO) (wA, wT, wG, wM, (uF0, yF1, uF2, uF3, uF4, uF5, uF6, uF7, uF8, uF9, uF10, uF11, uF12, uF13, uF14, uF15, uF16, uF17, uF18), wO) := by
  unfold f_X8_notes at hf
  refine xMv_of pn_X8 (Nat.le_of_ble_eq_true rfl) ⟨rfl, rfl⟩ ?_
  intro A p e s m args below meth c ls Q hc hw hl K
  have hc : xC κ A p s m args meth c cX8_notes RX8 6 none := hc
  have hx := hc.1.1
  have hb := hc.1.2.1
  have hl : lv_has ls 6 [(0, .ref (xAd κ 245)), (1, .int x1), (2, .long x2)] := hl
  refine lv_aload_n hx hb dX8_notes_0 rfl (lv_at hl 0 rfl) ?_
  refine x_get (v := .ref (xAd κ 246)) hc hw co_245 fX8_7 rfl dX8_notes_1 ?_
  refine lv_iconst (v := 5) hx hb dX8_notes_4 (by decide) ?_
  obtain ⟨k1, hf⟩ := xk_of hf
  refine x_lald (n := 304) (f := uF1) hc hw co_246 k1 dX8_notes_5 ?_
  refine lv_l2i (v := (uF1 (5 : Int32).toNatClampNeg).toInt32) hx hb dX8_notes_6 rfl ?_
  refine lv_istore (lv' := [(4, .int (uF1 (5 : Int32).toNatClampNeg).toInt32), (0, .ref (xAd κ 245)), (1, .int x1), (2, .long x2)]) hx hb dX8_notes_7 hl (by decide) rfl (fun ls hl => ?_)
  refine lv_iload hx hb dX8_notes_9 (lv_at hl 0 rfl) ?_
  refine lv_bipush (v := 16) hx hb dX8_notes_11 (by decide) ?_
  refine lv_icmp_ne (tgt := 63) hx hb dX8_notes_13 (by decide) (fun c2 => ?_) (fun c2 => ?_)
  · have hf := xif_f c2 hf
    refine lv_iinc (v := ((uF1 (5 : Int32).toNatClampNeg).toInt32 + 1)) (lv' := [(4, .int ((uF1 (5 : Int32).toNatClampNeg).toInt32 + 1)), (0, .ref (xAd κ 245)), (1, .int x1), (2, .long x2)]) hx hb dX8_notes_63 hl (k := 0) rfl rfl (by decide) rfl (fun ls hl => ?_)
    refine lv_aload_n hx hb dX8_notes_66 rfl (lv_at hl 1 rfl) ?_
    refine x_get (v := .ref (xAd κ 246)) hc hw co_245 fX8_7 rfl dX8_notes_67 ?_
    refine lv_iconst (v := 5) hx hb dX8_notes_70 (by decide) ?_
    refine lv_iload hx hb dX8_notes_71 (lv_at hl 0 rfl) ?_
    refine lv_i2l (v := ((uF1 (5 : Int32).toNatClampNeg).toInt32 + 1).toInt64) hx hb dX8_notes_73 rfl ?_
    obtain ⟨k3, hf⟩ := xk_of hf
    refine x_last (n := 304) (f := uF1) (σ' := (wA, wT, wG, wM, (uF0, (vp_updL uF1 (5 : Int32).toNatClampNeg ((uF1 (5 : Int32).toNatClampNeg).toInt32 + 1).toInt64), uF2, uF3, uF4, uF5, uF6, uF7, uF8, uF9, uF10, uF11, uF12, uF13, uF14, uF15, uF16, uF17, uF18), wO)) hc hw co_246 k3 so_F_1 dX8_notes_74 (fun H locs hw => ?_)
    refine lv_aload_n hx hb dX8_notes_75 rfl (lv_at hl 1 rfl) ?_
    refine x_get (v := .ref (xAd κ 246)) hc hw co_245 fX8_7 rfl dX8_notes_76 ?_
    refine lv_sipush (v := 272) hx hb dX8_notes_79 (by decide) ?_
    refine lv_iconst (v := 2) hx hb dX8_notes_82 (by decide) ?_
    refine lv_iload hx hb dX8_notes_83 (lv_at hl 0 rfl) ?_
    refine lv_imul hx hb dX8_notes_85 ?_
    refine lv_iadd hx hb dX8_notes_86 ?_
    refine lv_iconst (v := 2) hx hb dX8_notes_87 (by decide) ?_
    refine lv_isub hx hb dX8_notes_88 ?_
    refine lv_iload_n hx hb dX8_notes_89 rfl (lv_at hl 2 rfl) ?_
    refine lv_i2l (v := x1.toInt64) hx hb dX8_notes_90 rfl ?_
    obtain ⟨k4, hf⟩ := xk_of hf
    refine x_last (n := 304) (f := (vp_updL uF1 (5 : Int32).toNatClampNeg ((uF1 (5 : Int32).toNatClampNeg).toInt32 + 1).toInt64)) (σ' := (wA, wT, wG, wM, (uF0, (vp_updL (vp_updL uF1 (5 : Int32).toNatClampNeg ((uF1 (5 : Int32).toNatClampNeg).toInt32 + 1).toInt64) ((272 + (2 * ((uF1 (5 : Int32).toNatClampNeg).toInt32 + 1))) - 2).toNatClampNeg x1.toInt64), uF2, uF3, uF4, uF5, uF6, uF7, uF8, uF9, uF10, uF11, uF12, uF13, uF14, uF15, uF16, uF17, uF18), wO)) hc hw co_246 k4 so_F_1 dX8_notes_91 (fun H locs hw => ?_)
    refine lv_aload_n hx hb dX8_notes_92 rfl (lv_at hl 1 rfl) ?_
    refine x_get (v := .ref (xAd κ 246)) hc hw co_245 fX8_7 rfl dX8_notes_93 ?_
    refine lv_sipush (v := 272) hx hb dX8_notes_96 (by decide) ?_
    refine lv_iconst (v := 2) hx hb dX8_notes_99 (by decide) ?_
    refine lv_iload hx hb dX8_notes_100 (lv_at hl 0 rfl) ?_
    refine lv_imul hx hb dX8_notes_102 ?_
    refine lv_iadd hx hb dX8_notes_103 ?_
    refine lv_iconst (v := 1) hx hb dX8_notes_104 (by decide) ?_
    refine lv_isub hx hb dX8_notes_105 ?_
    refine lv_lload_n hx hb dX8_notes_106 rfl (lv_at hl 3 rfl) ?_
    obtain ⟨k5, hf⟩ := xk_of hf
    refine x_last (n := 304) (f := (vp_updL (vp_updL uF1 (5 : Int32).toNatClampNeg ((uF1 (5 : Int32).toNatClampNeg).toInt32 + 1).toInt64) ((272 + (2 * ((uF1 (5 : Int32).toNatClampNeg).toInt32 + 1))) - 2).toNatClampNeg x1.toInt64)) (σ' := (wA, wT, wG, wM, (uF0, (vp_updL (vp_updL (vp_updL uF1 (5 : Int32).toNatClampNeg ((uF1 (5 : Int32).toNatClampNeg).toInt32 + 1).toInt64) ((272 + (2 * ((uF1 (5 : Int32).toNatClampNeg).toInt32 + 1))) - 2).toNatClampNeg x1.toInt64) ((272 + (2 * ((uF1 (5 : Int32).toNatClampNeg).toInt32 + 1))) - 1).toNatClampNeg x2), uF2, uF3, uF4, uF5, uF6, uF7, uF8, uF9, uF10, uF11, uF12, uF13, uF14, uF15, uF16, uF17, uF18), wO)) hc hw co_246 k5 so_F_1 dX8_notes_107 (fun H locs hw => ?_)
    cases hf
    exact K _ _ _ _ dX8_notes_108 hw
  · have hf := xif_t c2 hf
    refine lv_iconst (v := 0) hx hb dX8_notes_16 (by decide) ?_
    refine lv_istore (lv' := [(5, .int 0), (4, .int (uF1 (5 : Int32).toNatClampNeg).toInt32), (0, .ref (xAd κ 245)), (1, .int x1), (2, .long x2)]) hx hb dX8_notes_17 hl (by decide) rfl (fun ls hl => ?_)
    exact l_X8_notes_19 hc K fu _ _ _ _ _ _ _ _ hf hw (lv_sub hl [2, 3, 4, 1, 0] rfl)
def f_X8_clear (fu : Nat) (uF0 : Int32) (uF1 : xF64) (uF5 : Int32) : Option (Int32 × Int32 × xF64 × Int32) :=
  xb1 (f_X8_parties uF1) fun v1 => (xb1 (f_X8_empties fu uF1) fun uF1_3 => (some (v1, 0, uF1_3, 0)))
set_option maxHeartbeats 4000000 in
set_option maxRecDepth 100000 in
theorem m_X8_clear {l : Launch} {κ : xKt} {wA : Nat → sAcc} {wT : sTxt} {wG : sRng} {wM : sMai} {wO : sOut} {fu : Nat} {uF0 : Int32} {uF1 : xF64} {uF2 : xF64} {uF3 : xF64} {uF4 : xF64} {uF5 : Int32} {uF6 : Int32} {uF7 : Int32} {uF8 : xF32} {uF9 : Int32} {uF10 : Int32} {uF11 : Int64} {uF12 : xF32} {uF13 : Int32} {uF14 : Int32} {uF15 : Int32} {uF16 : xF32} {uF17 : xF32} {uF18 : Int32} {rr : Int32} {yF0 : Int32} {yF1 : xF64} {yF5 : Int32} (hf : f_X8_clear fu uF0 uF1 uF5 = some (rr, yF0, yF1, yF5)) : xMi l κ yX8_clear cX8_clear 2 (some .int) (xR 1 0 0) [.ref (xAd κ 245)] (wA, wT, wG, wM, (uF0, uF1, uF2, uF3, uF4, uF5, uF6, uF7, uF8, uF9, uF10, uF11, uF12, uF13, uF14, uF15, uF16, uF17, uF18), wO) (wA, wT, wG, wM, (yF0, yF1, uF2, uF3, uF4, yF5, uF6, uF7, uF8, uF9, uF10, uF11, uF12, uF13, uF14, uF15, uF16, uF17, uF18), wO) rr := by
  unfold f_X8_clear at hf
  refine xMi_of pn_X8 (Nat.le_of_ble_eq_true rfl) ⟨rfl, rfl⟩ ?_
  intro A p e s m args below meth c ls Q hc hw hl K
  have hc : xC κ A p s m args meth c cX8_clear RX8 2 (some .int) := hc
  have hx := hc.1.1
  have hb := hc.1.2.1
  have hl : lv_has ls 2 [(0, .ref (xAd κ 245))] := hl
  refine lv_aload_n hx hb dX8_clear_0 rfl (lv_at hl 0 rfl) ?_
  refine lv_iconst (v := 0) hx hb dX8_clear_1 (by decide) ?_
  refine x_put (σ' := (wA, wT, wG, wM, (0, uF1, uF2, uF3, uF4, uF5, uF6, uF7, uF8, uF9, uF10, uF11, uF12, uF13, uF14, uF15, uF16, uF17, uF18), wO)) hc hw co_245 fX8_42 rfl rfl (Nat.le_of_ble_eq_true rfl) so_F_0 dX8_clear_2 (fun H locs hw => ?_)
  refine lv_aload_n hx hb dX8_clear_5 rfl (lv_at hl 0 rfl) ?_
  obtain ⟨v1, h2, hf⟩ := xb1_of hf
  refine x_calliV (As := []) (rest := []) (σ' := (wA, wT, wG, wM, (0, uF1, uF2, uF3, uF4, uF5, uF6, uF7, uF8, uF9, uF10, uF11, uF12, uF13, uF14, uF15, uF16, uF17, uF18), wO)) hc hw hl.1 (m_X8_parties h2) kX8_59 co_245 rfl rfl ⟨rfl, rfl⟩ ⟨Nat.le_of_ble_eq_true rfl, Nat.le_of_ble_eq_true rfl⟩ ⟨Nat.zero_le _, Nat.zero_le _⟩ (Nat.le_of_ble_eq_true rfl) dX8_clear_6 (fun H locs hw => ?_)
  refine lv_istore_n (lv' := [(1, .int v1), (0, .ref (xAd κ 245))]) hx hb dX8_clear_9 rfl hl (by decide) rfl (fun ls hl => ?_)
  refine lv_aload_n hx hb dX8_clear_10 rfl (lv_at hl 1 rfl) ?_
  obtain ⟨uF1_3, h4, hf⟩ := xb1_of hf
  refine x_callvV (As := []) (rest := []) (σ' := (wA, wT, wG, wM, (0, uF1_3, uF2, uF3, uF4, uF5, uF6, uF7, uF8, uF9, uF10, uF11, uF12, uF13, uF14, uF15, uF16, uF17, uF18), wO)) hc hw hl.1 (m_X8_empties h4) kX8_39 co_245 rfl rfl ⟨rfl, rfl⟩ ⟨Nat.le_of_ble_eq_true rfl, Nat.le_of_ble_eq_true rfl⟩ ⟨Nat.zero_le _, Nat.zero_le _⟩ (Nat.le_of_ble_eq_true rfl) dX8_clear_11 (fun H locs hw => ?_)
  refine lv_aload_n hx hb dX8_clear_14 rfl (lv_at hl 1 rfl) ?_
  refine lv_iconst (v := 0) hx hb dX8_clear_15 (by decide) ?_
  refine x_put (σ' := (wA, wT, wG, wM, (0, uF1_3, uF2, uF3, uF4, 0, uF6, uF7, uF8, uF9, uF10, uF11, uF12, uF13, uF14, uF15, uF16, uF17, uF18), wO)) hc hw co_245 fX8_73 rfl rfl (Nat.le_of_ble_eq_true rfl) so_F_5 dX8_clear_16 (fun H locs hw => ?_)
  refine lv_iload_n hx hb dX8_clear_19 rfl (lv_at hl 0 rfl) ?_
  cases hf
  exact K _ _ _ _ dX8_clear_20 rfl hw
def f_X8_addParty (fu : Nat) (x1 : Int32) (x2 : Int32) (uF0 : Int32) (uF1 : xF64) (uF3 : xF64) (uF4 : xF64) (uF5 : Int32) : Option (Int32 × Int32 × xF64 × xF64 × xF64 × Int32) :=
  xb1 (f_X8_remembers fu uF1 uF3) fun uF3_1 => (xb1 (f_X8_in x1 0 1) fun v3 => (if v3 = 0 then (xb2 (f_X8_fails 1 0) fun v6 uF0_7 => (some (v6, uF0_7, uF1, uF3_1, uF4, uF5))) else (xb1 (f_X8_in x2 1 9) fun v9 => (if v9 = 0 then (xb2 (f_X8_fails 1 0) fun v27 uF0_28 => (some (v27, uF0_28, uF1, uF3_1, uF4, uF5))) else (xb1 (f_X8_parties uF1) fun v12 => (if v12 = 6 then (xb2 (f_X8_fails 2 0) fun v24 uF0_25 => (some (v24, uF0_25, uF1, uF3_1, uF4, uF5))) else (xb1 (f_X8_parties uF1) fun v15 => (xk (xin (14 + v15) 304) (xk (xin (20 + v15) 304) (xk (xin 2 304) (xk (xin 2 304) (xb2 (f_X8_keeps fu uF3_1 uF4 uF5) fun uF4_21 uF5_22 => (some (v15, 0, (vp_updL (vp_updL (vp_updL uF1 (14 + v15).toNatClampNeg x1.toInt64) (20 + v15).toNatClampNeg x2.toInt64) (2 : Int32).toNatClampNeg (((vp_updL (vp_updL uF1 (14 + v15).toNatClampNeg x1.toInt64) (20 + v15).toNatClampNeg x2.toInt64) (2 : Int32).toNatClampNeg) + 1)), uF3_1, uF4_21, uF5_22))))))))))))))
set_option maxHeartbeats 4000000 in
set_option maxRecDepth 100000 in
theorem m_X8_addParty {l : Launch} {κ : xKt} {wA : Nat → sAcc} {wT : sTxt} {wG : sRng} {wM : sMai} {wO : sOut} {fu : Nat} {x1 : Int32} {x2 : Int32} {uF0 : Int32} {uF1 : xF64} {uF2 : xF64} {uF3 : xF64} {uF4 : xF64} {uF5 : Int32} {uF6 : Int32} {uF7 : Int32} {uF8 : xF32} {uF9 : Int32} {uF10 : Int32} {uF11 : Int64} {uF12 : xF32} {uF13 : Int32} {uF14 : Int32} {uF15 : Int32} {uF16 : xF32} {uF17 : xF32} {uF18 : Int32} {rr : Int32} {yF0 : Int32} {yF1 : xF64} {yF3 : xF64} {yF4 : xF64} {yF5 : Int32} (hf : f_X8_addParty fu x1 x2 uF0 uF1 uF3 uF4 uF5 = some (rr, yF0, yF1, yF3, yF4, yF5)) : xMi l κ yX8_addParty cX8_addParty 4 (some .int) (xR 1 0 0) [.ref (xAd κ 245), .int x1, .int x2] (wA, wT, wG, wM, (uF0, uF1, uF2, uF3, uF4, uF5, uF6, uF7, uF8, uF9, uF10, uF11, uF12, uF13, uF14, uF15, uF16, uF17, uF18), wO) (wA, wT, wG, wM, (yF0, yF1, uF2, yF3, yF4, yF5, uF6, uF7, uF8, uF9, uF10, uF11, uF12, uF13, uF14, uF15, uF16, uF17, uF18), wO) rr := by
  unfold f_X8_addParty at hf
  refine xMi_of pn_X8 (Nat.le_of_ble_eq_true rfl) ⟨rfl, rfl⟩ ?_
  intro A p e s m args below meth c ls Q hc hw hl K
  have hc : xC κ A p s m args meth c cX8_addParty RX8 4 (some .int) := hc
  have hx := hc.1.1
  have hb := hc.1.2.1
  have hl : lv_has ls 4 [(0, .ref (xAd κ 245)), (1, .int x1), (2, .int x2)] := hl
  refine lv_aload_n hx hb dX8_addParty_0 rfl (lv_at hl 0 rfl) ?_
  refine lv_iconst (v := 0) hx hb dX8_addParty_1 (by decide) ?_
  refine x_put (σ' := (wA, wT, wG, wM, (0, uF1, uF2, uF3, uF4, uF5, uF6, uF7, uF8, uF9, uF10, uF11, uF12, uF13, uF14, uF15, uF16, uF17, uF18), wO)) hc hw co_245 fX8_42 rfl rfl (Nat.le_of_ble_eq_true rfl) so_F_0 dX8_addParty_2 (fun H locs hw => ?_)
  refine lv_aload_n hx hb dX8_addParty_5 rfl (lv_at hl 0 rfl) ?_
  obtain ⟨uF3_1, h2, hf⟩ := xb1_of hf
  refine x_callvV (As := []) (rest := []) (σ' := (wA, wT, wG, wM, (0, uF1, uF2, uF3_1, uF4, uF5, uF6, uF7, uF8, uF9, uF10, uF11, uF12, uF13, uF14, uF15, uF16, uF17, uF18), wO)) hc hw hl.1 (m_X8_remembers h2) kX8_76 co_245 rfl rfl ⟨rfl, rfl⟩ ⟨Nat.le_of_ble_eq_true rfl, Nat.le_of_ble_eq_true rfl⟩ ⟨Nat.zero_le _, Nat.zero_le _⟩ (Nat.le_of_ble_eq_true rfl) dX8_addParty_6 (fun H locs hw => ?_)
  refine lv_iload_n hx hb dX8_addParty_9 rfl (lv_at hl 1 rfl) ?_
  refine lv_iconst (v := 0) hx hb dX8_addParty_10 (by decide) ?_
  refine lv_iconst (v := 1) hx hb dX8_addParty_11 (by decide) ?_
  obtain ⟨v3, h4, hf⟩ := xb1_of hf
  refine x_calliS (As := [.int x1, .int 0, .int 1]) (rest := []) (σ' := (wA, wT, wG, wM, (0, uF1, uF2, uF3_1, uF4, uF5, uF6, uF7, uF8, uF9, uF10, uF11, uF12, uF13, uF14, uF15, uF16, uF17, uF18), wO)) hc hw hl.1 (m_X8_in h4) kX8_63 rfl rfl ⟨rfl, rfl⟩ ⟨Nat.le_of_ble_eq_true rfl, Nat.le_of_ble_eq_true rfl⟩ ⟨Nat.zero_le _, Nat.zero_le _⟩ (Nat.le_of_ble_eq_true rfl) dX8_addParty_12 (fun H locs hw => ?_)
  refine lv_if_eq (tgt := 28) hx hb dX8_addParty_15 (by decide) (fun c5 => ?_) (fun c5 => ?_)
  · have hf := xif_t c5 hf
    refine lv_aload_n hx hb dX8_addParty_28 rfl (lv_at hl 0 rfl) ?_
    refine lv_iconst (v := 1) hx hb dX8_addParty_29 (by decide) ?_
    obtain ⟨v6, uF0_7, h8, hf⟩ := xb2_of hf
    refine x_calliV (As := [.int 1]) (rest := []) (σ' := (wA, wT, wG, wM, (uF0_7, uF1, uF2, uF3_1, uF4, uF5, uF6, uF7, uF8, uF9, uF10, uF11, uF12, uF13, uF14, uF15, uF16, uF17, uF18), wO)) hc hw hl.1 (m_X8_fails h8) kX8_79 co_245 rfl rfl ⟨rfl, rfl⟩ ⟨Nat.le_of_ble_eq_true rfl, Nat.le_of_ble_eq_true rfl⟩ ⟨Nat.zero_le _, Nat.zero_le _⟩ (Nat.le_of_ble_eq_true rfl) dX8_addParty_30 (fun H locs hw => ?_)
    cases hf
    exact K _ _ _ _ dX8_addParty_33 rfl hw
  · have hf := xif_f c5 hf
    refine lv_iload_n hx hb dX8_addParty_18 rfl (lv_at hl 2 rfl) ?_
    refine lv_iconst (v := 1) hx hb dX8_addParty_19 (by decide) ?_
    refine lv_bipush (v := 9) hx hb dX8_addParty_20 (by decide) ?_
    obtain ⟨v9, h10, hf⟩ := xb1_of hf
    refine x_calliS (As := [.int x2, .int 1, .int 9]) (rest := []) (σ' := (wA, wT, wG, wM, (0, uF1, uF2, uF3_1, uF4, uF5, uF6, uF7, uF8, uF9, uF10, uF11, uF12, uF13, uF14, uF15, uF16, uF17, uF18), wO)) hc hw hl.1 (m_X8_in h10) kX8_63 rfl rfl ⟨rfl, rfl⟩ ⟨Nat.le_of_ble_eq_true rfl, Nat.le_of_ble_eq_true rfl⟩ ⟨Nat.zero_le _, Nat.zero_le _⟩ (Nat.le_of_ble_eq_true rfl) dX8_addParty_22 (fun H locs hw => ?_)
    refine lv_if_ne (tgt := 34) hx hb dX8_addParty_25 (by decide) (fun c11 => ?_) (fun c11 => ?_)
    · have hf := xif_f c11 hf
      refine lv_aload_n hx hb dX8_addParty_34 rfl (lv_at hl 0 rfl) ?_
      obtain ⟨v12, h13, hf⟩ := xb1_of hf
      refine x_calliV (As := []) (rest := []) (σ' := (wA, wT, wG, wM, (0, uF1, uF2, uF3_1, uF4, uF5, uF6, uF7, uF8, uF9, uF10, uF11, uF12, uF13, uF14, uF15, uF16, uF17, uF18), wO)) hc hw hl.1 (m_X8_parties h13) kX8_59 co_245 rfl rfl ⟨rfl, rfl⟩ ⟨Nat.le_of_ble_eq_true rfl, Nat.le_of_ble_eq_true rfl⟩ ⟨Nat.zero_le _, Nat.zero_le _⟩ (Nat.le_of_ble_eq_true rfl) dX8_addParty_35 (fun H locs hw => ?_)
      refine lv_bipush (v := 6) hx hb dX8_addParty_38 (by decide) ?_
      refine lv_icmp_ne (tgt := 49) hx hb dX8_addParty_40 (by decide) (fun c14 => ?_) (fun c14 => ?_)
      · have hf := xif_f c14 hf
        refine lv_aload_n hx hb dX8_addParty_49 rfl (lv_at hl 0 rfl) ?_
        obtain ⟨v15, h16, hf⟩ := xb1_of hf
        refine x_calliV (As := []) (rest := []) (σ' := (wA, wT, wG, wM, (0, uF1, uF2, uF3_1, uF4, uF5, uF6, uF7, uF8, uF9, uF10, uF11, uF12, uF13, uF14, uF15, uF16, uF17, uF18), wO)) hc hw hl.1 (m_X8_parties h16) kX8_59 co_245 rfl rfl ⟨rfl, rfl⟩ ⟨Nat.le_of_ble_eq_true rfl, Nat.le_of_ble_eq_true rfl⟩ ⟨Nat.zero_le _, Nat.zero_le _⟩ (Nat.le_of_ble_eq_true rfl) dX8_addParty_50 (fun H locs hw => ?_)
        refine lv_istore_n (lv' := [(3, .int v15), (0, .ref (xAd κ 245)), (1, .int x1), (2, .int x2)]) hx hb dX8_addParty_53 rfl hl (by decide) rfl (fun ls hl => ?_)
        refine lv_aload_n hx hb dX8_addParty_54 rfl (lv_at hl 1 rfl) ?_
        refine x_get (v := .ref (xAd κ 246)) hc hw co_245 fX8_7 rfl dX8_addParty_55 ?_
        refine lv_bipush (v := 14) hx hb dX8_addParty_58 (by decide) ?_
        refine lv_iload_n hx hb dX8_addParty_60 rfl (lv_at hl 0 rfl) ?_
        refine lv_iadd hx hb dX8_addParty_61 ?_
        refine lv_iload_n hx hb dX8_addParty_62 rfl (lv_at hl 2 rfl) ?_
        refine lv_i2l (v := x1.toInt64) hx hb dX8_addParty_63 rfl ?_
        obtain ⟨k17, hf⟩ := xk_of hf
        refine x_last (n := 304) (f := uF1) (σ' := (wA, wT, wG, wM, (0, (vp_updL uF1 (14 + v15).toNatClampNeg x1.toInt64), uF2, uF3_1, uF4, uF5, uF6, uF7, uF8, uF9, uF10, uF11, uF12, uF13, uF14, uF15, uF16, uF17, uF18), wO)) hc hw co_246 k17 so_F_1 dX8_addParty_64 (fun H locs hw => ?_)
        refine lv_aload_n hx hb dX8_addParty_65 rfl (lv_at hl 1 rfl) ?_
        refine x_get (v := .ref (xAd κ 246)) hc hw co_245 fX8_7 rfl dX8_addParty_66 ?_
        refine lv_bipush (v := 20) hx hb dX8_addParty_69 (by decide) ?_
        refine lv_iload_n hx hb dX8_addParty_71 rfl (lv_at hl 0 rfl) ?_
        refine lv_iadd hx hb dX8_addParty_72 ?_
        refine lv_iload_n hx hb dX8_addParty_73 rfl (lv_at hl 3 rfl) ?_
        refine lv_i2l (v := x2.toInt64) hx hb dX8_addParty_74 rfl ?_
        obtain ⟨k18, hf⟩ := xk_of hf
        refine x_last (n := 304) (f := (vp_updL uF1 (14 + v15).toNatClampNeg x1.toInt64)) (σ' := (wA, wT, wG, wM, (0, (vp_updL (vp_updL uF1 (14 + v15).toNatClampNeg x1.toInt64) (20 + v15).toNatClampNeg x2.toInt64), uF2, uF3_1, uF4, uF5, uF6, uF7, uF8, uF9, uF10, uF11, uF12, uF13, uF14, uF15, uF16, uF17, uF18), wO)) hc hw co_246 k18 so_F_1 dX8_addParty_75 (fun H locs hw => ?_)
        refine lv_aload_n hx hb dX8_addParty_76 rfl (lv_at hl 1 rfl) ?_
        refine x_get (v := .ref (xAd κ 246)) hc hw co_245 fX8_7 rfl dX8_addParty_77 ?_
        refine lv_iconst (v := 2) hx hb dX8_addParty_80 (by decide) ?_
        refine lv_dup2_11 hx hb dX8_addParty_81 rfl rfl ?_
        obtain ⟨k19, hf⟩ := xk_of hf
        refine x_lald (n := 304) (f := (vp_updL (vp_updL uF1 (14 + v15).toNatClampNeg x1.toInt64) (20 + v15).toNatClampNeg x2.toInt64)) hc hw co_246 k19 dX8_addParty_82 ?_
        refine lv_lconst (v := 1) hx hb dX8_addParty_83 (by decide) ?_
        refine lv_ladd hx hb dX8_addParty_84 ?_
        obtain ⟨k20, hf⟩ := xk_of hf
        refine x_last (n := 304) (f := (vp_updL (vp_updL uF1 (14 + v15).toNatClampNeg x1.toInt64) (20 + v15).toNatClampNeg x2.toInt64)) (σ' := (wA, wT, wG, wM, (0, (vp_updL (vp_updL (vp_updL uF1 (14 + v15).toNatClampNeg x1.toInt64) (20 + v15).toNatClampNeg x2.toInt64) (2 : Int32).toNatClampNeg (((vp_updL (vp_updL uF1 (14 + v15).toNatClampNeg x1.toInt64) (20 + v15).toNatClampNeg x2.toInt64) (2 : Int32).toNatClampNeg) + 1)), uF2, uF3_1, uF4, uF5, uF6, uF7, uF8, uF9, uF10, uF11, uF12, uF13, uF14, uF15, uF16, uF17, uF18), wO)) hc hw co_246 k20 so_F_1 dX8_addParty_85 (fun H locs hw => ?_)
        refine lv_aload_n hx hb dX8_addParty_86 rfl (lv_at hl 1 rfl) ?_
        obtain ⟨uF4_21, uF5_22, h23, hf⟩ := xb2_of hf
        refine x_callvV (As := []) (rest := []) (σ' := (wA, wT, wG, wM, (0, (vp_updL (vp_updL (vp_updL uF1 (14 + v15).toNatClampNeg x1.toInt64) (20 + v15).toNatClampNeg x2.toInt64) (2 : Int32).toNatClampNeg (((vp_updL (vp_updL uF1 (14 + v15).toNatClampNeg x1.toInt64) (20 + v15).toNatClampNeg x2.toInt64) (2 : Int32).toNatClampNeg) + 1)), uF2, uF3_1, uF4_21, uF5_22, uF6, uF7, uF8, uF9, uF10, uF11, uF12, uF13, uF14, uF15, uF16, uF17, uF18), wO)) hc hw hl.1 (m_X8_keeps h23) kX8_83 co_245 rfl rfl ⟨rfl, rfl⟩ ⟨Nat.le_of_ble_eq_true rfl, Nat.le_of_ble_eq_true rfl⟩ ⟨Nat.zero_le _, Nat.zero_le _⟩ (Nat.le_of_ble_eq_true rfl) dX8_addParty_87 (fun H locs hw => ?_)
        refine lv_iload_n hx hb dX8_addParty_90 rfl (lv_at hl 0 rfl) ?_
        cases hf
        exact K _ _ _ _ dX8_addParty_91 rfl hw
      · have hf := xif_t c14 hf
        refine lv_aload_n hx hb dX8_addParty_43 rfl (lv_at hl 0 rfl) ?_
        refine lv_iconst (v := 2) hx hb dX8_addParty_44 (by decide) ?_
        obtain ⟨v24, uF0_25, h26, hf⟩ := xb2_of hf
        refine x_calliV (As := [.int 2]) (rest := []) (σ' := (wA, wT, wG, wM, (uF0_25, uF1, uF2, uF3_1, uF4, uF5, uF6, uF7, uF8, uF9, uF10, uF11, uF12, uF13, uF14, uF15, uF16, uF17, uF18), wO)) hc hw hl.1 (m_X8_fails h26) kX8_79 co_245 rfl rfl ⟨rfl, rfl⟩ ⟨Nat.le_of_ble_eq_true rfl, Nat.le_of_ble_eq_true rfl⟩ ⟨Nat.zero_le _, Nat.zero_le _⟩ (Nat.le_of_ble_eq_true rfl) dX8_addParty_45 (fun H locs hw => ?_)
        cases hf
        exact K _ _ _ _ dX8_addParty_48 rfl hw
    · have hf := xif_t c11 hf
      refine lv_aload_n hx hb dX8_addParty_28 rfl (lv_at hl 0 rfl) ?_
      refine lv_iconst (v := 1) hx hb dX8_addParty_29 (by decide) ?_
      obtain ⟨v27, uF0_28, h29, hf⟩ := xb2_of hf
      refine x_calliV (As := [.int 1]) (rest := []) (σ' := (wA, wT, wG, wM, (uF0_28, uF1, uF2, uF3_1, uF4, uF5, uF6, uF7, uF8, uF9, uF10, uF11, uF12, uF13, uF14, uF15, uF16, uF17, uF18), wO)) hc hw hl.1 (m_X8_fails h29) kX8_79 co_245 rfl rfl ⟨rfl, rfl⟩ ⟨Nat.le_of_ble_eq_true rfl, Nat.le_of_ble_eq_true rfl⟩ ⟨Nat.zero_le _, Nat.zero_le _⟩ (Nat.le_of_ble_eq_true rfl) dX8_addParty_30 (fun H locs hw => ?_)
      cases hf
      exact K _ _ _ _ dX8_addParty_33 rfl hw
def f_X8_sets (fu : Nat) (x1 : Int32) (x2 : Int32) (uF1 : xF64) (uF3 : xF64) (uF4 : xF64) (uF5 : Int32) : Option (Int32 × xF64 × xF64 × Int32) :=
  xk (xin x1 304) (xk (xin x1 304) (xb2 (f_X8_keeps fu uF3 uF4 uF5) fun uF4_3 uF5_4 => (some ((uF1 x1.toNatClampNeg).toInt32, (vp_updL uF1 x1.toNatClampNeg x2.toInt64), uF4_3, uF5_4))))
set_option maxHeartbeats 4000000 in
set_option maxRecDepth 100000 in
theorem m_X8_sets {l : Launch} {κ : xKt} {wA : Nat → sAcc} {wT : sTxt} {wG : sRng} {wM : sMai} {wO : sOut} {fu : Nat} {x1 : Int32} {x2 : Int32} {uF0 : Int32} {uF1 : xF64} {uF2 : xF64} {uF3 : xF64} {uF4 : xF64} {uF5 : Int32} {uF6 : Int32} {uF7 : Int32} {uF8 : xF32} {uF9 : Int32} {uF10 : Int32} {uF11 : Int64} {uF12 : xF32} {uF13 : Int32} {uF14 : Int32} {uF15 : Int32} {uF16 : xF32} {uF17 : xF32} {uF18 : Int32} {rr : Int32} {yF1 : xF64} {yF4 : xF64} {yF5 : Int32} (hf : f_X8_sets fu x1 x2 uF1 uF3 uF4 uF5 = some (rr, yF1, yF4, yF5)) : xMi l κ yX8_sets cX8_sets 4 (some .int) (xR 1 0 0) [.ref (xAd κ 245), .int x1, .int x2] (wA, wT, wG, wM, (uF0, uF1, uF2, uF3, uF4, uF5, uF6, uF7, uF8, uF9, uF10, uF11, uF12, uF13, uF14, uF15, uF16, uF17, uF18), wO) (wA, wT, wG, wM, (uF0, yF1, uF2, uF3, yF4, yF5, uF6, uF7, uF8, uF9, uF10, uF11, uF12, uF13, uF14, uF15, uF16, uF17, uF18), wO) rr := by
  unfold f_X8_sets at hf
  refine xMi_of pn_X8 (Nat.le_of_ble_eq_true rfl) ⟨rfl, rfl⟩ ?_
  intro A p e s m args below meth c ls Q hc hw hl K
  have hc : xC κ A p s m args meth c cX8_sets RX8 4 (some .int) := hc
  have hx := hc.1.1
  have hb := hc.1.2.1
  have hl : lv_has ls 4 [(0, .ref (xAd κ 245)), (1, .int x1), (2, .int x2)] := hl
  refine lv_aload_n hx hb dX8_sets_0 rfl (lv_at hl 0 rfl) ?_
  refine x_get (v := .ref (xAd κ 246)) hc hw co_245 fX8_7 rfl dX8_sets_1 ?_
  refine lv_iload_n hx hb dX8_sets_4 rfl (lv_at hl 1 rfl) ?_
  obtain ⟨k1, hf⟩ := xk_of hf
  refine x_lald (n := 304) (f := uF1) hc hw co_246 k1 dX8_sets_5 ?_
  refine lv_l2i (v := (uF1 x1.toNatClampNeg).toInt32) hx hb dX8_sets_6 rfl ?_
  refine lv_istore_n (lv' := [(3, .int (uF1 x1.toNatClampNeg).toInt32), (0, .ref (xAd κ 245)), (1, .int x1), (2, .int x2)]) hx hb dX8_sets_7 rfl hl (by decide) rfl (fun ls hl => ?_)
  refine lv_aload_n hx hb dX8_sets_8 rfl (lv_at hl 1 rfl) ?_
  refine x_get (v := .ref (xAd κ 246)) hc hw co_245 fX8_7 rfl dX8_sets_9 ?_
  refine lv_iload_n hx hb dX8_sets_12 rfl (lv_at hl 2 rfl) ?_
  refine lv_iload_n hx hb dX8_sets_13 rfl (lv_at hl 3 rfl) ?_
  refine lv_i2l (v := x2.toInt64) hx hb dX8_sets_14 rfl ?_
  obtain ⟨k2, hf⟩ := xk_of hf
  refine x_last (n := 304) (f := uF1) (σ' := (wA, wT, wG, wM, (uF0, (vp_updL uF1 x1.toNatClampNeg x2.toInt64), uF2, uF3, uF4, uF5, uF6, uF7, uF8, uF9, uF10, uF11, uF12, uF13, uF14, uF15, uF16, uF17, uF18), wO)) hc hw co_246 k2 so_F_1 dX8_sets_15 (fun H locs hw => ?_)
  refine lv_aload_n hx hb dX8_sets_16 rfl (lv_at hl 1 rfl) ?_
  obtain ⟨uF4_3, uF5_4, h5, hf⟩ := xb2_of hf
  refine x_callvV (As := []) (rest := []) (σ' := (wA, wT, wG, wM, (uF0, (vp_updL uF1 x1.toNatClampNeg x2.toInt64), uF2, uF3, uF4_3, uF5_4, uF6, uF7, uF8, uF9, uF10, uF11, uF12, uF13, uF14, uF15, uF16, uF17, uF18), wO)) hc hw hl.1 (m_X8_keeps h5) kX8_83 co_245 rfl rfl ⟨rfl, rfl⟩ ⟨Nat.le_of_ble_eq_true rfl, Nat.le_of_ble_eq_true rfl⟩ ⟨Nat.zero_le _, Nat.zero_le _⟩ (Nat.le_of_ble_eq_true rfl) dX8_sets_17 (fun H locs hw => ?_)
  refine lv_iload_n hx hb dX8_sets_20 rfl (lv_at hl 0 rfl) ?_
  cases hf
  exact K _ _ _ _ dX8_sets_21 rfl hw
def f_X8_setRate (fu : Nat) (x1 : Int32) (x2 : Int32) (uF0 : Int32) (uF1 : xF64) (uF3 : xF64) (uF4 : xF64) (uF5 : Int32) : Option (Int32 × Int32 × xF64 × xF64 × xF64 × Int32) :=
  xb1 (f_X8_remembers fu uF1 uF3) fun uF3_1 => (xb1 (f_X8_in x1 0 3) fun v3 => (if v3 = 0 then (xb2 (f_X8_fails 1 0) fun v17 uF0_18 => (some (v17, uF0_18, uF1, uF3_1, uF4, uF5))) else (xb1 (f_X8_in x2 0 2000) fun v6 => (if v6 = 0 then (xb2 (f_X8_fails 2 0) fun v9 uF0_10 => (some (v9, uF0_10, uF1, uF3_1, uF4, uF5))) else (xb4 (f_X8_sets fu (6 + x1) x2 uF1 uF3_1 uF4 uF5) fun v12 uF1_13 uF4_14 uF5_15 => (some (v12, 0, uF1_13, uF3_1, uF4_14, uF5_15)))))))
set_option maxHeartbeats 4000000 in
set_option maxRecDepth 100000 in
theorem m_X8_setRate {l : Launch} {κ : xKt} {wA : Nat → sAcc} {wT : sTxt} {wG : sRng} {wM : sMai} {wO : sOut} {fu : Nat} {x1 : Int32} {x2 : Int32} {uF0 : Int32} {uF1 : xF64} {uF2 : xF64} {uF3 : xF64} {uF4 : xF64} {uF5 : Int32} {uF6 : Int32} {uF7 : Int32} {uF8 : xF32} {uF9 : Int32} {uF10 : Int32} {uF11 : Int64} {uF12 : xF32} {uF13 : Int32} {uF14 : Int32} {uF15 : Int32} {uF16 : xF32} {uF17 : xF32} {uF18 : Int32} {rr : Int32} {yF0 : Int32} {yF1 : xF64} {yF3 : xF64} {yF4 : xF64} {yF5 : Int32} (hf : f_X8_setRate fu x1 x2 uF0 uF1 uF3 uF4 uF5 = some (rr, yF0, yF1, yF3, yF4, yF5)) : xMi l κ yX8_setRate cX8_setRate 3 (some .int) (xR 2 0 0) [.ref (xAd κ 245), .int x1, .int x2] (wA, wT, wG, wM, (uF0, uF1, uF2, uF3, uF4, uF5, uF6, uF7, uF8, uF9, uF10, uF11, uF12, uF13, uF14, uF15, uF16, uF17, uF18), wO) (wA, wT, wG, wM, (yF0, yF1, uF2, yF3, yF4, yF5, uF6, uF7, uF8, uF9, uF10, uF11, uF12, uF13, uF14, uF15, uF16, uF17, uF18), wO) rr := by
  unfold f_X8_setRate at hf
  refine xMi_of pn_X8 (Nat.le_of_ble_eq_true rfl) ⟨rfl, rfl⟩ ?_
  intro A p e s m args below meth c ls Q hc hw hl K
  have hc : xC κ A p s m args meth c cX8_setRate RX8 3 (some .int) := hc
  have hx := hc.1.1
  have hb := hc.1.2.1
  have hl : lv_has ls 3 [(0, .ref (xAd κ 245)), (1, .int x1), (2, .int x2)] := hl
  refine lv_aload_n hx hb dX8_setRate_0 rfl (lv_at hl 0 rfl) ?_
  refine lv_iconst (v := 0) hx hb dX8_setRate_1 (by decide) ?_
  refine x_put (σ' := (wA, wT, wG, wM, (0, uF1, uF2, uF3, uF4, uF5, uF6, uF7, uF8, uF9, uF10, uF11, uF12, uF13, uF14, uF15, uF16, uF17, uF18), wO)) hc hw co_245 fX8_42 rfl rfl (Nat.le_of_ble_eq_true rfl) so_F_0 dX8_setRate_2 (fun H locs hw => ?_)
  refine lv_aload_n hx hb dX8_setRate_5 rfl (lv_at hl 0 rfl) ?_
  obtain ⟨uF3_1, h2, hf⟩ := xb1_of hf
  refine x_callvV (As := []) (rest := []) (σ' := (wA, wT, wG, wM, (0, uF1, uF2, uF3_1, uF4, uF5, uF6, uF7, uF8, uF9, uF10, uF11, uF12, uF13, uF14, uF15, uF16, uF17, uF18), wO)) hc hw hl.1 (m_X8_remembers h2) kX8_76 co_245 rfl rfl ⟨rfl, rfl⟩ ⟨Nat.le_of_ble_eq_true rfl, Nat.le_of_ble_eq_true rfl⟩ ⟨Nat.zero_le _, Nat.zero_le _⟩ (Nat.le_of_ble_eq_true rfl) dX8_setRate_6 (fun H locs hw => ?_)
  refine lv_iload_n hx hb dX8_setRate_9 rfl (lv_at hl 1 rfl) ?_
  refine lv_iconst (v := 0) hx hb dX8_setRate_10 (by decide) ?_
  refine lv_iconst (v := 3) hx hb dX8_setRate_11 (by decide) ?_
  obtain ⟨v3, h4, hf⟩ := xb1_of hf
  refine x_calliS (As := [.int x1, .int 0, .int 3]) (rest := []) (σ' := (wA, wT, wG, wM, (0, uF1, uF2, uF3_1, uF4, uF5, uF6, uF7, uF8, uF9, uF10, uF11, uF12, uF13, uF14, uF15, uF16, uF17, uF18), wO)) hc hw hl.1 (m_X8_in h4) kX8_63 rfl rfl ⟨rfl, rfl⟩ ⟨Nat.le_of_ble_eq_true rfl, Nat.le_of_ble_eq_true rfl⟩ ⟨Nat.zero_le _, Nat.zero_le _⟩ (Nat.le_of_ble_eq_true rfl) dX8_setRate_12 (fun H locs hw => ?_)
  refine lv_if_ne (tgt := 24) hx hb dX8_setRate_15 (by decide) (fun c5 => ?_) (fun c5 => ?_)
  · have hf := xif_f c5 hf
    refine lv_iload_n hx hb dX8_setRate_24 rfl (lv_at hl 2 rfl) ?_
    refine lv_iconst (v := 0) hx hb dX8_setRate_25 (by decide) ?_
    refine lv_sipush (v := 2000) hx hb dX8_setRate_26 (by decide) ?_
    obtain ⟨v6, h7, hf⟩ := xb1_of hf
    refine x_calliS (As := [.int x2, .int 0, .int 2000]) (rest := []) (σ' := (wA, wT, wG, wM, (0, uF1, uF2, uF3_1, uF4, uF5, uF6, uF7, uF8, uF9, uF10, uF11, uF12, uF13, uF14, uF15, uF16, uF17, uF18), wO)) hc hw hl.1 (m_X8_in h7) kX8_63 rfl rfl ⟨rfl, rfl⟩ ⟨Nat.le_of_ble_eq_true rfl, Nat.le_of_ble_eq_true rfl⟩ ⟨Nat.zero_le _, Nat.zero_le _⟩ (Nat.le_of_ble_eq_true rfl) dX8_setRate_29 (fun H locs hw => ?_)
    refine lv_if_eq (tgt := 47) hx hb dX8_setRate_32 (by decide) (fun c8 => ?_) (fun c8 => ?_)
    · have hf := xif_t c8 hf
      refine lv_aload_n hx hb dX8_setRate_47 rfl (lv_at hl 0 rfl) ?_
      refine lv_iconst (v := 2) hx hb dX8_setRate_48 (by decide) ?_
      obtain ⟨v9, uF0_10, h11, hf⟩ := xb2_of hf
      refine x_calliV (As := [.int 2]) (rest := []) (σ' := (wA, wT, wG, wM, (uF0_10, uF1, uF2, uF3_1, uF4, uF5, uF6, uF7, uF8, uF9, uF10, uF11, uF12, uF13, uF14, uF15, uF16, uF17, uF18), wO)) hc hw hl.1 (m_X8_fails h11) kX8_79 co_245 rfl rfl ⟨rfl, rfl⟩ ⟨Nat.le_of_ble_eq_true rfl, Nat.le_of_ble_eq_true rfl⟩ ⟨Nat.zero_le _, Nat.zero_le _⟩ (Nat.le_of_ble_eq_true rfl) dX8_setRate_49 (fun H locs hw => ?_)
      cases hf
      exact K _ _ _ _ dX8_setRate_52 rfl hw
    · have hf := xif_f c8 hf
      refine lv_aload_n hx hb dX8_setRate_35 rfl (lv_at hl 0 rfl) ?_
      refine lv_bipush (v := 6) hx hb dX8_setRate_36 (by decide) ?_
      refine lv_iload_n hx hb dX8_setRate_38 rfl (lv_at hl 1 rfl) ?_
      refine lv_iadd hx hb dX8_setRate_39 ?_
      refine lv_iload_n hx hb dX8_setRate_40 rfl (lv_at hl 2 rfl) ?_
      obtain ⟨v12, uF1_13, uF4_14, uF5_15, h16, hf⟩ := xb4_of hf
      refine x_calliV (As := [.int (6 + x1), .int x2]) (rest := []) (σ' := (wA, wT, wG, wM, (0, uF1_13, uF2, uF3_1, uF4_14, uF5_15, uF6, uF7, uF8, uF9, uF10, uF11, uF12, uF13, uF14, uF15, uF16, uF17, uF18), wO)) hc hw hl.1 (m_X8_sets h16) kX8_86 co_245 rfl rfl ⟨rfl, rfl⟩ ⟨Nat.le_of_ble_eq_true rfl, Nat.le_of_ble_eq_true rfl⟩ ⟨Nat.zero_le _, Nat.zero_le _⟩ (Nat.le_of_ble_eq_true rfl) dX8_setRate_41 (fun H locs hw => ?_)
      refine lv_goto (tgt := 52) hx hb dX8_setRate_44 (by decide) ?_
      cases hf
      exact K _ _ _ _ dX8_setRate_52 rfl hw
  · have hf := xif_t c5 hf
    refine lv_aload_n hx hb dX8_setRate_18 rfl (lv_at hl 0 rfl) ?_
    refine lv_iconst (v := 1) hx hb dX8_setRate_19 (by decide) ?_
    obtain ⟨v17, uF0_18, h19, hf⟩ := xb2_of hf
    refine x_calliV (As := [.int 1]) (rest := []) (σ' := (wA, wT, wG, wM, (uF0_18, uF1, uF2, uF3_1, uF4, uF5, uF6, uF7, uF8, uF9, uF10, uF11, uF12, uF13, uF14, uF15, uF16, uF17, uF18), wO)) hc hw hl.1 (m_X8_fails h19) kX8_79 co_245 rfl rfl ⟨rfl, rfl⟩ ⟨Nat.le_of_ble_eq_true rfl, Nat.le_of_ble_eq_true rfl⟩ ⟨Nat.zero_le _, Nat.zero_le _⟩ (Nat.le_of_ble_eq_true rfl) dX8_setRate_20 (fun H locs hw => ?_)
    cases hf
    exact K _ _ _ _ dX8_setRate_23 rfl hw
def f_X8_setTier (fu : Nat) (x1 : Int32) (x2 : Int32) (uF0 : Int32) (uF1 : xF64) (uF3 : xF64) (uF4 : xF64) (uF5 : Int32) : Option (Int32 × Int32 × xF64 × xF64 × xF64 × Int32) :=
  xb1 (f_X8_remembers fu uF1 uF3) fun uF3_1 => (xb1 (f_X8_in x1 0 3) fun v3 => (if v3 = 0 then (xb2 (f_X8_fails 1 0) fun v17 uF0_18 => (some (v17, uF0_18, uF1, uF3_1, uF4, uF5))) else (xb1 (f_X8_in x2 0 2000) fun v6 => (if v6 = 0 then (xb2 (f_X8_fails 2 0) fun v9 uF0_10 => (some (v9, uF0_10, uF1, uF3_1, uF4, uF5))) else (xb4 (f_X8_sets fu (10 + x1) x2 uF1 uF3_1 uF4 uF5) fun v12 uF1_13 uF4_14 uF5_15 => (some (v12, 0, uF1_13, uF3_1, uF4_14, uF5_15)))))))
set_option maxHeartbeats 4000000 in
set_option maxRecDepth 100000 in
theorem m_X8_setTier {l : Launch} {κ : xKt} {wA : Nat → sAcc} {wT : sTxt} {wG : sRng} {wM : sMai} {wO : sOut} {fu : Nat} {x1 : Int32} {x2 : Int32} {uF0 : Int32} {uF1 : xF64} {uF2 : xF64} {uF3 : xF64} {uF4 : xF64} {uF5 : Int32} {uF6 : Int32} {uF7 : Int32} {uF8 : xF32} {uF9 : Int32} {uF10 : Int32} {uF11 : Int64} {uF12 : xF32} {uF13 : Int32} {uF14 : Int32} {uF15 : Int32} {uF16 : xF32} {uF17 : xF32} {uF18 : Int32} {rr : Int32} {yF0 : Int32} {yF1 : xF64} {yF3 : xF64} {yF4 : xF64} {yF5 : Int32} (hf : f_X8_setTier fu x1 x2 uF0 uF1 uF3 uF4 uF5 = some (rr, yF0, yF1, yF3, yF4, yF5)) : xMi l κ yX8_setTier cX8_setTier 3 (some .int) (xR 2 0 0) [.ref (xAd κ 245), .int x1, .int x2] (wA, wT, wG, wM, (uF0, uF1, uF2, uF3, uF4, uF5, uF6, uF7, uF8, uF9, uF10, uF11, uF12, uF13, uF14, uF15, uF16, uF17, uF18), wO) (wA, wT, wG, wM, (yF0, yF1, uF2, yF3, yF4, yF5, uF6, uF7, uF8, uF9, uF10, uF11, uF12, uF13, uF14, uF15, uF16, uF17, uF18), wO) rr := by
  unfold f_X8_setTier at hf
  refine xMi_of pn_X8 (Nat.le_of_ble_eq_true rfl) ⟨rfl, rfl⟩ ?_
  intro A p e s m args below meth c ls Q hc hw hl K
  have hc : xC κ A p s m args meth c cX8_setTier RX8 3 (some .int) := hc
  have hx := hc.1.1
  have hb := hc.1.2.1
  have hl : lv_has ls 3 [(0, .ref (xAd κ 245)), (1, .int x1), (2, .int x2)] := hl
  refine lv_aload_n hx hb dX8_setTier_0 rfl (lv_at hl 0 rfl) ?_
  refine lv_iconst (v := 0) hx hb dX8_setTier_1 (by decide) ?_
  refine x_put (σ' := (wA, wT, wG, wM, (0, uF1, uF2, uF3, uF4, uF5, uF6, uF7, uF8, uF9, uF10, uF11, uF12, uF13, uF14, uF15, uF16, uF17, uF18), wO)) hc hw co_245 fX8_42 rfl rfl (Nat.le_of_ble_eq_true rfl) so_F_0 dX8_setTier_2 (fun H locs hw => ?_)
  refine lv_aload_n hx hb dX8_setTier_5 rfl (lv_at hl 0 rfl) ?_
  obtain ⟨uF3_1, h2, hf⟩ := xb1_of hf
  refine x_callvV (As := []) (rest := []) (σ' := (wA, wT, wG, wM, (0, uF1, uF2, uF3_1, uF4, uF5, uF6, uF7, uF8, uF9, uF10, uF11, uF12, uF13, uF14, uF15, uF16, uF17, uF18), wO)) hc hw hl.1 (m_X8_remembers h2) kX8_76 co_245 rfl rfl ⟨rfl, rfl⟩ ⟨Nat.le_of_ble_eq_true rfl, Nat.le_of_ble_eq_true rfl⟩ ⟨Nat.zero_le _, Nat.zero_le _⟩ (Nat.le_of_ble_eq_true rfl) dX8_setTier_6 (fun H locs hw => ?_)
  refine lv_iload_n hx hb dX8_setTier_9 rfl (lv_at hl 1 rfl) ?_
  refine lv_iconst (v := 0) hx hb dX8_setTier_10 (by decide) ?_
  refine lv_iconst (v := 3) hx hb dX8_setTier_11 (by decide) ?_
  obtain ⟨v3, h4, hf⟩ := xb1_of hf
  refine x_calliS (As := [.int x1, .int 0, .int 3]) (rest := []) (σ' := (wA, wT, wG, wM, (0, uF1, uF2, uF3_1, uF4, uF5, uF6, uF7, uF8, uF9, uF10, uF11, uF12, uF13, uF14, uF15, uF16, uF17, uF18), wO)) hc hw hl.1 (m_X8_in h4) kX8_63 rfl rfl ⟨rfl, rfl⟩ ⟨Nat.le_of_ble_eq_true rfl, Nat.le_of_ble_eq_true rfl⟩ ⟨Nat.zero_le _, Nat.zero_le _⟩ (Nat.le_of_ble_eq_true rfl) dX8_setTier_12 (fun H locs hw => ?_)
  refine lv_if_ne (tgt := 24) hx hb dX8_setTier_15 (by decide) (fun c5 => ?_) (fun c5 => ?_)
  · have hf := xif_f c5 hf
    refine lv_iload_n hx hb dX8_setTier_24 rfl (lv_at hl 2 rfl) ?_
    refine lv_iconst (v := 0) hx hb dX8_setTier_25 (by decide) ?_
    refine lv_sipush (v := 2000) hx hb dX8_setTier_26 (by decide) ?_
    obtain ⟨v6, h7, hf⟩ := xb1_of hf
    refine x_calliS (As := [.int x2, .int 0, .int 2000]) (rest := []) (σ' := (wA, wT, wG, wM, (0, uF1, uF2, uF3_1, uF4, uF5, uF6, uF7, uF8, uF9, uF10, uF11, uF12, uF13, uF14, uF15, uF16, uF17, uF18), wO)) hc hw hl.1 (m_X8_in h7) kX8_63 rfl rfl ⟨rfl, rfl⟩ ⟨Nat.le_of_ble_eq_true rfl, Nat.le_of_ble_eq_true rfl⟩ ⟨Nat.zero_le _, Nat.zero_le _⟩ (Nat.le_of_ble_eq_true rfl) dX8_setTier_29 (fun H locs hw => ?_)
    refine lv_if_eq (tgt := 47) hx hb dX8_setTier_32 (by decide) (fun c8 => ?_) (fun c8 => ?_)
    · have hf := xif_t c8 hf
      refine lv_aload_n hx hb dX8_setTier_47 rfl (lv_at hl 0 rfl) ?_
      refine lv_iconst (v := 2) hx hb dX8_setTier_48 (by decide) ?_
      obtain ⟨v9, uF0_10, h11, hf⟩ := xb2_of hf
      refine x_calliV (As := [.int 2]) (rest := []) (σ' := (wA, wT, wG, wM, (uF0_10, uF1, uF2, uF3_1, uF4, uF5, uF6, uF7, uF8, uF9, uF10, uF11, uF12, uF13, uF14, uF15, uF16, uF17, uF18), wO)) hc hw hl.1 (m_X8_fails h11) kX8_79 co_245 rfl rfl ⟨rfl, rfl⟩ ⟨Nat.le_of_ble_eq_true rfl, Nat.le_of_ble_eq_true rfl⟩ ⟨Nat.zero_le _, Nat.zero_le _⟩ (Nat.le_of_ble_eq_true rfl) dX8_setTier_49 (fun H locs hw => ?_)
      cases hf
      exact K _ _ _ _ dX8_setTier_52 rfl hw
    · have hf := xif_f c8 hf
      refine lv_aload_n hx hb dX8_setTier_35 rfl (lv_at hl 0 rfl) ?_
      refine lv_bipush (v := 10) hx hb dX8_setTier_36 (by decide) ?_
      refine lv_iload_n hx hb dX8_setTier_38 rfl (lv_at hl 1 rfl) ?_
      refine lv_iadd hx hb dX8_setTier_39 ?_
      refine lv_iload_n hx hb dX8_setTier_40 rfl (lv_at hl 2 rfl) ?_
      obtain ⟨v12, uF1_13, uF4_14, uF5_15, h16, hf⟩ := xb4_of hf
      refine x_calliV (As := [.int (10 + x1), .int x2]) (rest := []) (σ' := (wA, wT, wG, wM, (0, uF1_13, uF2, uF3_1, uF4_14, uF5_15, uF6, uF7, uF8, uF9, uF10, uF11, uF12, uF13, uF14, uF15, uF16, uF17, uF18), wO)) hc hw hl.1 (m_X8_sets h16) kX8_86 co_245 rfl rfl ⟨rfl, rfl⟩ ⟨Nat.le_of_ble_eq_true rfl, Nat.le_of_ble_eq_true rfl⟩ ⟨Nat.zero_le _, Nat.zero_le _⟩ (Nat.le_of_ble_eq_true rfl) dX8_setTier_41 (fun H locs hw => ?_)
      refine lv_goto (tgt := 52) hx hb dX8_setTier_44 (by decide) ?_
      cases hf
      exact K _ _ _ _ dX8_setTier_52 rfl hw
  · have hf := xif_t c5 hf
    refine lv_aload_n hx hb dX8_setTier_18 rfl (lv_at hl 0 rfl) ?_
    refine lv_iconst (v := 1) hx hb dX8_setTier_19 (by decide) ?_
    obtain ⟨v17, uF0_18, h19, hf⟩ := xb2_of hf
    refine x_calliV (As := [.int 1]) (rest := []) (σ' := (wA, wT, wG, wM, (uF0_18, uF1, uF2, uF3_1, uF4, uF5, uF6, uF7, uF8, uF9, uF10, uF11, uF12, uF13, uF14, uF15, uF16, uF17, uF18), wO)) hc hw hl.1 (m_X8_fails h19) kX8_79 co_245 rfl rfl ⟨rfl, rfl⟩ ⟨Nat.le_of_ble_eq_true rfl, Nat.le_of_ble_eq_true rfl⟩ ⟨Nat.zero_le _, Nat.zero_le _⟩ (Nat.le_of_ble_eq_true rfl) dX8_setTier_20 (fun H locs hw => ?_)
    cases hf
    exact K _ _ _ _ dX8_setTier_23 rfl hw
def f_X8_disputed_4 (fu : Nat) (uF1 : xF64) : Nat → (Int64) → (Int32) → Option Int64
  | 0, _, _ => none
  | n + 1, x1, x3 => xb1 (f_X8_claims uF1) fun v1 => (if v1 ≤ x3 then (some x1) else (xb1 (f_X8_claimAt x3 2) fun v4 => (xk (xin v4 304) (xb1 (f_X8_claimAt x3 5) fun v7 => (xk (xin v7 304) (f_X8_disputed_4 fu uF1 n (x1 + ((uF1 v4.toNatClampNeg) - (uF1 v7.toNatClampNeg))) (x3 + 1)))))))
def f_X8_disputed (fu : Nat) (uF1 : xF64) : Option Int64 :=
  f_X8_disputed_4 fu uF1 fu 0 0
set_option maxHeartbeats 4000000 in
set_option maxRecDepth 100000 in
theorem l_X8_disputed_4 {l : Launch} {κ : xKt} {wA : Nat → sAcc} {wT : sTxt} {wG : sRng} {wM : sMai} {wO : sOut} {fu : Nat} {uF0 : Int32} {uF1 : xF64} {uF2 : xF64} {uF3 : xF64} {uF4 : xF64} {uF5 : Int32} {uF6 : Int32} {uF7 : Int32} {uF8 : xF32} {uF9 : Int32} {uF10 : Int32} {uF11 : Int64} {uF12 : xF32} {uF13 : Int32} {uF14 : Int32} {uF15 : Int32} {uF16 : xF32} {uF17 : xF32} {uF18 : Int32} {A : Nat → Prop} {p : Program} {e : Env} {s : State} {m : MethodId} {args : Array Value} {below : List Frame} {meth : Method} {c : Code} {Q : State → Prop} {rr : Int64}
    (hc : xC κ A p s m args meth c cX8_disputed RX8 4 (some .long))
    (K : ∀ (pc : Nat) (ls : Array Slot) (H : Heap) (locs : List Loc), decode cX8_disputed pc = .ok (.lreturn, 1) → xW κ A s (wA, wT, wG, wM, (uF0, uF1, uF2, uF3, uF4, uF5, uF6, uF7, uF8, uF9, uF10, uF11, uF12, uF13, uF14, uF15, uF16, uF17, uF18), wO) H locs → W p l e (xR 1 0 0) s m args below meth c H locs 0 0 Q (F0 m pc ls [.long rr])) :
    ∀ (n : Nat) (x1 : Int64) (x3 : Int32) (H : Heap) (locs : List Loc) (ls : Array Slot), f_X8_disputed_4 fu uF1 n x1 x3 = some rr → xW κ A s (wA, wT, wG, wM, (uF0, uF1, uF2, uF3, uF4, uF5, uF6, uF7, uF8, uF9, uF10, uF11, uF12, uF13, uF14, uF15, uF16, uF17, uF18), wO) H locs → lv_has ls 4 [(0, .ref (xAd κ 245)), (1, .long x1), (3, .int x3)] → W p l e (xR 1 0 0) s m args below meth c H locs 0 0 Q (F0 m 4 ls []) := by
  have hx := hc.1.1
  have hb := hc.1.2.1
  intro n
  induction n with
  | zero =>
    intro x1 x3 H locs ls hf
    rw [f_X8_disputed_4] at hf
    cases hf
  | succ n hi =>
    intro x1 x3 H locs ls hf hw hl
    rw [f_X8_disputed_4] at hf
    refine lv_iload_n hx hb dX8_disputed_4 rfl (lv_at hl 2 rfl) ?_
    refine lv_aload_n hx hb dX8_disputed_5 rfl (lv_at hl 0 rfl) ?_
    obtain ⟨v1, h2, hf⟩ := xb1_of hf
    refine x_calliV (As := []) (rest := [.int x3]) (σ' := (wA, wT, wG, wM, (uF0, uF1, uF2, uF3, uF4, uF5, uF6, uF7, uF8, uF9, uF10, uF11, uF12, uF13, uF14, uF15, uF16, uF17, uF18), wO)) hc hw hl.1 (m_X8_claims h2) kX8_67 co_245 rfl rfl ⟨rfl, rfl⟩ ⟨Nat.le_of_ble_eq_true rfl, Nat.le_of_ble_eq_true rfl⟩ ⟨Nat.zero_le _, Nat.zero_le _⟩ (Nat.le_of_ble_eq_true rfl) dX8_disputed_6 (fun H locs hw => ?_)
    refine lv_icmp_ge (tgt := 44) hx hb dX8_disputed_9 (by decide) (fun c3 => ?_) (fun c3 => ?_)
    · have hf := xif_t c3 hf
      refine lv_lload_n hx hb dX8_disputed_44 rfl (lv_at hl 1 rfl) ?_
      cases hf
      exact K _ _ _ _ dX8_disputed_45 hw
    · have hf := xif_f c3 hf
      refine lv_lload_n hx hb dX8_disputed_12 rfl (lv_at hl 1 rfl) ?_
      refine lv_aload_n hx hb dX8_disputed_13 rfl (lv_at hl 0 rfl) ?_
      refine x_get (v := .ref (xAd κ 246)) hc hw co_245 fX8_7 rfl dX8_disputed_14 ?_
      refine lv_aload_n hx hb dX8_disputed_17 rfl (lv_at hl 0 rfl) ?_
      refine lv_iload_n hx hb dX8_disputed_18 rfl (lv_at hl 2 rfl) ?_
      refine lv_iconst (v := 2) hx hb dX8_disputed_19 (by decide) ?_
      obtain ⟨v4, h5, hf⟩ := xb1_of hf
      refine x_calliV (As := [.int x3, .int 2]) (rest := [.ref (xAd κ 246), .long x1]) (σ' := (wA, wT, wG, wM, (uF0, uF1, uF2, uF3, uF4, uF5, uF6, uF7, uF8, uF9, uF10, uF11, uF12, uF13, uF14, uF15, uF16, uF17, uF18), wO)) hc hw hl.1 (m_X8_claimAt h5) kX8_90 co_245 rfl rfl ⟨rfl, rfl⟩ ⟨Nat.le_of_ble_eq_true rfl, Nat.le_of_ble_eq_true rfl⟩ ⟨Nat.zero_le _, Nat.zero_le _⟩ (Nat.le_of_ble_eq_true rfl) dX8_disputed_20 (fun H locs hw => ?_)
      obtain ⟨k6, hf⟩ := xk_of hf
      refine x_lald (n := 304) (f := uF1) hc hw co_246 k6 dX8_disputed_23 ?_
      refine lv_aload_n hx hb dX8_disputed_24 rfl (lv_at hl 0 rfl) ?_
      refine x_get (v := .ref (xAd κ 246)) hc hw co_245 fX8_7 rfl dX8_disputed_25 ?_
      refine lv_aload_n hx hb dX8_disputed_28 rfl (lv_at hl 0 rfl) ?_
      refine lv_iload_n hx hb dX8_disputed_29 rfl (lv_at hl 2 rfl) ?_
      refine lv_iconst (v := 5) hx hb dX8_disputed_30 (by decide) ?_
      obtain ⟨v7, h8, hf⟩ := xb1_of hf
      refine x_calliV (As := [.int x3, .int 5]) (rest := [.ref (xAd κ 246), .long (uF1 v4.toNatClampNeg), .long x1]) (σ' := (wA, wT, wG, wM, (uF0, uF1, uF2, uF3, uF4, uF5, uF6, uF7, uF8, uF9, uF10, uF11, uF12, uF13, uF14, uF15, uF16, uF17, uF18), wO)) hc hw hl.1 (m_X8_claimAt h8) kX8_90 co_245 rfl rfl ⟨rfl, rfl⟩ ⟨Nat.le_of_ble_eq_true rfl, Nat.le_of_ble_eq_true rfl⟩ ⟨Nat.zero_le _, Nat.zero_le _⟩ (Nat.le_of_ble_eq_true rfl) dX8_disputed_31 (fun H locs hw => ?_)
      obtain ⟨k9, hf⟩ := xk_of hf
      refine x_lald (n := 304) (f := uF1) hc hw co_246 k9 dX8_disputed_34 ?_
      refine lv_lsub hx hb dX8_disputed_35 ?_
      refine lv_ladd hx hb dX8_disputed_36 ?_
      refine lv_lstore_n (lv' := [(1, .long (x1 + ((uF1 v4.toNatClampNeg) - (uF1 v7.toNatClampNeg)))), (0, .ref (xAd κ 245)), (3, .int x3)]) hx hb dX8_disputed_37 rfl hl (by decide) rfl (fun ls hl => ?_)
      refine lv_iinc (v := (x3 + 1)) (lv' := [(3, .int (x3 + 1)), (1, .long (x1 + ((uF1 v4.toNatClampNeg) - (uF1 v7.toNatClampNeg)))), (0, .ref (xAd κ 245))]) hx hb dX8_disputed_38 hl (k := 2) rfl rfl (by decide) rfl (fun ls hl => ?_)
      refine lv_goto (tgt := 4) hx hb dX8_disputed_41 (by decide) ?_
      exact hi _ _ _ _ _ hf hw (lv_sub hl [2, 1, 0] rfl)
set_option maxHeartbeats 4000000 in
set_option maxRecDepth 100000 in
theorem m_X8_disputed {l : Launch} {κ : xKt} {wA : Nat → sAcc} {wT : sTxt} {wG : sRng} {wM : sMai} {wO : sOut} {fu : Nat} {uF0 : Int32} {uF1 : xF64} {uF2 : xF64} {uF3 : xF64} {uF4 : xF64} {uF5 : Int32} {uF6 : Int32} {uF7 : Int32} {uF8 : xF32} {uF9 : Int32} {uF10 : Int32} {uF11 : Int64} {uF12 : xF32} {uF13 : Int32} {uF14 : Int32} {uF15 : Int32} {uF16 : xF32} {uF17 : xF32} {uF18 : Int32} {rr : Int64} (hf : f_X8_disputed fu uF1 = some rr) : xMl l κ yX8_disputed cX8_disputed 4 (some .long) (xR 1 0 0) [.ref (xAd κ 245)] (wA, wT, wG, wM, (uF0, uF1, uF2, uF3, uF4, uF5, uF6, uF7, uF8, uF9, uF10, uF11, uF12, uF13, uF14, uF15, uF16, uF17, uF18), wO) (wA, wT, wG, wM, (uF0, uF1, uF2, uF3, uF4, uF5, uF6, uF7, uF8, uF9, uF10, uF11, uF12, uF13, uF14, uF15, uF16, uF17, uF18), wO) rr := by
  unfold f_X8_disputed at hf
  refine xMl_of pn_X8 (Nat.le_of_ble_eq_true rfl) ⟨rfl, rfl⟩ ?_
  intro A p e s m args below meth c ls Q hc hw hl K
  have hc : xC κ A p s m args meth c cX8_disputed RX8 4 (some .long) := hc
  have hx := hc.1.1
  have hb := hc.1.2.1
  have hl : lv_has ls 4 [(0, .ref (xAd κ 245))] := hl
  refine lv_lconst (v := 0) hx hb dX8_disputed_0 (by decide) ?_
  refine lv_lstore_n (lv' := [(1, .long 0), (0, .ref (xAd κ 245))]) hx hb dX8_disputed_1 rfl hl (by decide) rfl (fun ls hl => ?_)
  refine lv_iconst (v := 0) hx hb dX8_disputed_2 (by decide) ?_
  refine lv_istore_n (lv' := [(3, .int 0), (1, .long 0), (0, .ref (xAd κ 245))]) hx hb dX8_disputed_3 rfl hl (by decide) rfl (fun ls hl => ?_)
  exact l_X8_disputed_4 hc K fu _ _ _ _ _ hf hw (lv_sub hl [2, 1, 0] rfl)
def f_X8_partOf (x1 : Int64) (x3 : Int32) : Option Int64 :=
  if x3 = 0 then (if x3 = 0 then (xb1 (f_X8_least x1 1000000) fun v61 => (if v61 ≤ 0 then (some 0) else (some ((v61 - 0))))) else (if x3 = 1 then (xb1 (f_X8_least x1 5000000) fun v58 => (if v58 ≤ 0 then (some 0) else (some ((v58 - 0))))) else (if x3 = 2 then (xb1 (f_X8_least x1 20000000) fun v55 => (if v55 ≤ 0 then (some 0) else (some ((v55 - 0))))) else (xb1 (f_X8_least x1 x1) fun v52 => (if v52 ≤ 0 then (some 0) else (some ((v52 - 0)))))))) else (if x3 = 1 then (if x3 = 0 then (xb1 (f_X8_least x1 1000000) fun v46 => (if v46 ≤ 1000000 then (some 0) else (some ((v46 - 1000000))))) else (if x3 = 1 then (xb1 (f_X8_least x1 5000000) fun v43 => (if v43 ≤ 1000000 then (some 0) else (some ((v43 - 1000000))))) else (if x3 = 2 then (xb1 (f_X8_least x1 20000000) fun v40 => (if v40 ≤ 1000000 then (some 0) else (some ((v40 - 1000000))))) else (xb1 (f_X8_least x1 x1) fun v37 => (if v37 ≤ 1000000 then (some 0) else (some ((v37 - 1000000)))))))) else (if x3 = 2 then (if x3 = 0 then (xb1 (f_X8_least x1 1000000) fun v31 => (if v31 ≤ 5000000 then (some 0) else (some ((v31 - 5000000))))) else (if x3 = 1 then (xb1 (f_X8_least x1 5000000) fun v28 => (if v28 ≤ 5000000 then (some 0) else (some ((v28 - 5000000))))) else (if x3 = 2 then (xb1 (f_X8_least x1 20000000) fun v25 => (if v25 ≤ 5000000 then (some 0) else (some ((v25 - 5000000))))) else (xb1 (f_X8_least x1 x1) fun v22 => (if v22 ≤ 5000000 then (some 0) else (some ((v22 - 5000000)))))))) else (if x3 = 0 then (xb1 (f_X8_least x1 1000000) fun v16 => (if v16 ≤ 20000000 then (some 0) else (some ((v16 - 20000000))))) else (if x3 = 1 then (xb1 (f_X8_least x1 5000000) fun v13 => (if v13 ≤ 20000000 then (some 0) else (some ((v13 - 20000000))))) else (if x3 = 2 then (xb1 (f_X8_least x1 20000000) fun v10 => (if v10 ≤ 20000000 then (some 0) else (some ((v10 - 20000000))))) else (xb1 (f_X8_least x1 x1) fun v7 => (if v7 ≤ 20000000 then (some 0) else (some ((v7 - 20000000))))))))))
set_option maxHeartbeats 4000000 in
set_option maxRecDepth 100000 in
theorem m_X8_partOf {l : Launch} {κ : xKt} {wA : Nat → sAcc} {wT : sTxt} {wG : sRng} {wM : sMai} {wO : sOut}  {x1 : Int64} {x3 : Int32} {uF0 : Int32} {uF1 : xF64} {uF2 : xF64} {uF3 : xF64} {uF4 : xF64} {uF5 : Int32} {uF6 : Int32} {uF7 : Int32} {uF8 : xF32} {uF9 : Int32} {uF10 : Int32} {uF11 : Int64} {uF12 : xF32} {uF13 : Int32} {uF14 : Int32} {uF15 : Int32} {uF16 : xF32} {uF17 : xF32} {uF18 : Int32} {rr : Int64} (hf : f_X8_partOf x1 x3 = some rr) : xMl l κ yX8_partOf cX8_partOf 10 (some .long) (xR 1 0 0) [.ref (xAd κ 245), .long x1, .int x3] (wA, wT, wG, wM, (uF0, uF1, uF2, uF3, uF4, uF5, uF6, uF7, uF8, uF9, uF10, uF11, uF12, uF13, uF14, uF15, uF16, uF17, uF18), wO) (wA, wT, wG, wM, (uF0, uF1, uF2, uF3, uF4, uF5, uF6, uF7, uF8, uF9, uF10, uF11, uF12, uF13, uF14, uF15, uF16, uF17, uF18), wO) rr := by
  unfold f_X8_partOf at hf
  refine xMl_of pn_X8 (Nat.le_of_ble_eq_true rfl) ⟨rfl, rfl⟩ ?_
  intro A p e s m args below meth c ls Q hc hw hl K
  have hc : xC κ A p s m args meth c cX8_partOf RX8 10 (some .long) := hc
  have hx := hc.1.1
  have hb := hc.1.2.1
  have hl : lv_has ls 10 [(0, .ref (xAd κ 245)), (1, .long x1), (3, .int x3)] := hl
  refine lv_iload_n hx hb dX8_partOf_0 rfl (lv_at hl 2 rfl) ?_
  refine lv_if_ne (tgt := 8) hx hb dX8_partOf_1 (by decide) (fun c1 => ?_) (fun c1 => ?_)
  · have hf := xif_f c1 hf
    refine lv_iload_n hx hb dX8_partOf_8 rfl (lv_at hl 2 rfl) ?_
    refine lv_iconst (v := 1) hx hb dX8_partOf_9 (by decide) ?_
    refine lv_icmp_ne (tgt := 19) hx hb dX8_partOf_10 (by decide) (fun c2 => ?_) (fun c2 => ?_)
    · have hf := xif_f c2 hf
      refine lv_iload_n hx hb dX8_partOf_19 rfl (lv_at hl 2 rfl) ?_
      refine lv_iconst (v := 2) hx hb dX8_partOf_20 (by decide) ?_
      refine lv_icmp_ne (tgt := 30) hx hb dX8_partOf_21 (by decide) (fun c3 => ?_) (fun c3 => ?_)
      · have hf := xif_f c3 hf
        refine x_ldc2 hc w_constantLong_RX8_97_20000000 dX8_partOf_30 ?_
        refine lv_lstore (lv' := [(4, .long 20000000), (0, .ref (xAd κ 245)), (1, .long x1), (3, .int x3)]) hx hb dX8_partOf_33 hl (by decide) rfl (fun ls hl => ?_)
        refine lv_iload_n hx hb dX8_partOf_35 rfl (lv_at hl 3 rfl) ?_
        refine lv_if_ne (tgt := 45) hx hb dX8_partOf_36 (by decide) (fun c4 => ?_) (fun c4 => ?_)
        · have hf := xif_f c4 hf
          refine lv_iload_n hx hb dX8_partOf_45 rfl (lv_at hl 3 rfl) ?_
          refine lv_iconst (v := 1) hx hb dX8_partOf_46 (by decide) ?_
          refine lv_icmp_ne (tgt := 56) hx hb dX8_partOf_47 (by decide) (fun c5 => ?_) (fun c5 => ?_)
          · have hf := xif_f c5 hf
            refine lv_iload_n hx hb dX8_partOf_56 rfl (lv_at hl 3 rfl) ?_
            refine lv_iconst (v := 2) hx hb dX8_partOf_57 (by decide) ?_
            refine lv_icmp_ne (tgt := 67) hx hb dX8_partOf_58 (by decide) (fun c6 => ?_) (fun c6 => ?_)
            · have hf := xif_f c6 hf
              refine lv_lload_n hx hb dX8_partOf_67 rfl (lv_at hl 2 rfl) ?_
              refine lv_lstore (lv' := [(6, .long x1), (4, .long 20000000), (0, .ref (xAd κ 245)), (1, .long x1), (3, .int x3)]) hx hb dX8_partOf_68 hl (by decide) rfl (fun ls hl => ?_)
              refine lv_lload_n hx hb dX8_partOf_70 rfl (lv_at hl 3 rfl) ?_
              refine lv_lload hx hb dX8_partOf_71 (lv_at hl 0 rfl) ?_
              obtain ⟨v7, h8, hf⟩ := xb1_of hf
              refine x_calllS (As := [.long x1, .long x1]) (rest := []) (σ' := (wA, wT, wG, wM, (uF0, uF1, uF2, uF3, uF4, uF5, uF6, uF7, uF8, uF9, uF10, uF11, uF12, uF13, uF14, uF15, uF16, uF17, uF18), wO)) hc hw hl.1 (m_X8_least h8) kX8_99 rfl rfl ⟨rfl, rfl⟩ ⟨Nat.le_of_ble_eq_true rfl, Nat.le_of_ble_eq_true rfl⟩ ⟨Nat.zero_le _, Nat.zero_le _⟩ (Nat.le_of_ble_eq_true rfl) dX8_partOf_73 (fun H locs hw => ?_)
              refine lv_lstore (lv' := [(8, .long v7), (6, .long x1), (4, .long 20000000), (0, .ref (xAd κ 245)), (1, .long x1), (3, .int x3)]) hx hb dX8_partOf_76 hl (by decide) rfl (fun ls hl => ?_)
              refine lv_lload hx hb dX8_partOf_78 (lv_at hl 0 rfl) ?_
              refine lv_lload hx hb dX8_partOf_80 (lv_at hl 2 rfl) ?_
              refine x_lcmp_le (tgt := 94) hx hb dX8_partOf_82 dX8_partOf_83 (by decide) (fun c9 => ?_) (fun c9 => ?_)
              · have hf := xif_t c9 hf
                refine lv_lconst (v := 0) hx hb dX8_partOf_94 (by decide) ?_
                cases hf
                exact K _ _ _ _ dX8_partOf_95 hw
              · have hf := xif_f c9 hf
                refine lv_lload hx hb dX8_partOf_86 (lv_at hl 0 rfl) ?_
                refine lv_lload hx hb dX8_partOf_88 (lv_at hl 2 rfl) ?_
                refine lv_lsub hx hb dX8_partOf_90 ?_
                refine lv_goto (tgt := 95) hx hb dX8_partOf_91 (by decide) ?_
                cases hf
                exact K _ _ _ _ dX8_partOf_95 hw
            · have hf := xif_t c6 hf
              refine x_ldc2 hc w_constantLong_RX8_97_20000000 dX8_partOf_61 ?_
              refine lv_goto (tgt := 68) hx hb dX8_partOf_64 (by decide) ?_
              refine lv_lstore (lv' := [(6, .long 20000000), (4, .long 20000000), (0, .ref (xAd κ 245)), (1, .long x1), (3, .int x3)]) hx hb dX8_partOf_68 hl (by decide) rfl (fun ls hl => ?_)
              refine lv_lload_n hx hb dX8_partOf_70 rfl (lv_at hl 3 rfl) ?_
              refine lv_lload hx hb dX8_partOf_71 (lv_at hl 0 rfl) ?_
              obtain ⟨v10, h11, hf⟩ := xb1_of hf
              refine x_calllS (As := [.long x1, .long 20000000]) (rest := []) (σ' := (wA, wT, wG, wM, (uF0, uF1, uF2, uF3, uF4, uF5, uF6, uF7, uF8, uF9, uF10, uF11, uF12, uF13, uF14, uF15, uF16, uF17, uF18), wO)) hc hw hl.1 (m_X8_least h11) kX8_99 rfl rfl ⟨rfl, rfl⟩ ⟨Nat.le_of_ble_eq_true rfl, Nat.le_of_ble_eq_true rfl⟩ ⟨Nat.zero_le _, Nat.zero_le _⟩ (Nat.le_of_ble_eq_true rfl) dX8_partOf_73 (fun H locs hw => ?_)
              refine lv_lstore (lv' := [(8, .long v10), (6, .long 20000000), (4, .long 20000000), (0, .ref (xAd κ 245)), (1, .long x1), (3, .int x3)]) hx hb dX8_partOf_76 hl (by decide) rfl (fun ls hl => ?_)
              refine lv_lload hx hb dX8_partOf_78 (lv_at hl 0 rfl) ?_
              refine lv_lload hx hb dX8_partOf_80 (lv_at hl 2 rfl) ?_
              refine x_lcmp_le (tgt := 94) hx hb dX8_partOf_82 dX8_partOf_83 (by decide) (fun c12 => ?_) (fun c12 => ?_)
              · have hf := xif_t c12 hf
                refine lv_lconst (v := 0) hx hb dX8_partOf_94 (by decide) ?_
                cases hf
                exact K _ _ _ _ dX8_partOf_95 hw
              · have hf := xif_f c12 hf
                refine lv_lload hx hb dX8_partOf_86 (lv_at hl 0 rfl) ?_
                refine lv_lload hx hb dX8_partOf_88 (lv_at hl 2 rfl) ?_
                refine lv_lsub hx hb dX8_partOf_90 ?_
                refine lv_goto (tgt := 95) hx hb dX8_partOf_91 (by decide) ?_
                cases hf
                exact K _ _ _ _ dX8_partOf_95 hw
          · have hf := xif_t c5 hf
            refine x_ldc2 hc w_constantLong_RX8_95_5000000 dX8_partOf_50 ?_
            refine lv_goto (tgt := 68) hx hb dX8_partOf_53 (by decide) ?_
            refine lv_lstore (lv' := [(6, .long 5000000), (4, .long 20000000), (0, .ref (xAd κ 245)), (1, .long x1), (3, .int x3)]) hx hb dX8_partOf_68 hl (by decide) rfl (fun ls hl => ?_)
            refine lv_lload_n hx hb dX8_partOf_70 rfl (lv_at hl 3 rfl) ?_
            refine lv_lload hx hb dX8_partOf_71 (lv_at hl 0 rfl) ?_
            obtain ⟨v13, h14, hf⟩ := xb1_of hf
            refine x_calllS (As := [.long x1, .long 5000000]) (rest := []) (σ' := (wA, wT, wG, wM, (uF0, uF1, uF2, uF3, uF4, uF5, uF6, uF7, uF8, uF9, uF10, uF11, uF12, uF13, uF14, uF15, uF16, uF17, uF18), wO)) hc hw hl.1 (m_X8_least h14) kX8_99 rfl rfl ⟨rfl, rfl⟩ ⟨Nat.le_of_ble_eq_true rfl, Nat.le_of_ble_eq_true rfl⟩ ⟨Nat.zero_le _, Nat.zero_le _⟩ (Nat.le_of_ble_eq_true rfl) dX8_partOf_73 (fun H locs hw => ?_)
            refine lv_lstore (lv' := [(8, .long v13), (6, .long 5000000), (4, .long 20000000), (0, .ref (xAd κ 245)), (1, .long x1), (3, .int x3)]) hx hb dX8_partOf_76 hl (by decide) rfl (fun ls hl => ?_)
            refine lv_lload hx hb dX8_partOf_78 (lv_at hl 0 rfl) ?_
            refine lv_lload hx hb dX8_partOf_80 (lv_at hl 2 rfl) ?_
            refine x_lcmp_le (tgt := 94) hx hb dX8_partOf_82 dX8_partOf_83 (by decide) (fun c15 => ?_) (fun c15 => ?_)
            · have hf := xif_t c15 hf
              refine lv_lconst (v := 0) hx hb dX8_partOf_94 (by decide) ?_
              cases hf
              exact K _ _ _ _ dX8_partOf_95 hw
            · have hf := xif_f c15 hf
              refine lv_lload hx hb dX8_partOf_86 (lv_at hl 0 rfl) ?_
              refine lv_lload hx hb dX8_partOf_88 (lv_at hl 2 rfl) ?_
              refine lv_lsub hx hb dX8_partOf_90 ?_
              refine lv_goto (tgt := 95) hx hb dX8_partOf_91 (by decide) ?_
              cases hf
              exact K _ _ _ _ dX8_partOf_95 hw
        · have hf := xif_t c4 hf
          refine x_ldc2 hc w_constantLong_RX8_93_1000000 dX8_partOf_39 ?_
          refine lv_goto (tgt := 68) hx hb dX8_partOf_42 (by decide) ?_
          refine lv_lstore (lv' := [(6, .long 1000000), (4, .long 20000000), (0, .ref (xAd κ 245)), (1, .long x1), (3, .int x3)]) hx hb dX8_partOf_68 hl (by decide) rfl (fun ls hl => ?_)
          refine lv_lload_n hx hb dX8_partOf_70 rfl (lv_at hl 3 rfl) ?_
          refine lv_lload hx hb dX8_partOf_71 (lv_at hl 0 rfl) ?_
          obtain ⟨v16, h17, hf⟩ := xb1_of hf
          refine x_calllS (As := [.long x1, .long 1000000]) (rest := []) (σ' := (wA, wT, wG, wM, (uF0, uF1, uF2, uF3, uF4, uF5, uF6, uF7, uF8, uF9, uF10, uF11, uF12, uF13, uF14, uF15, uF16, uF17, uF18), wO)) hc hw hl.1 (m_X8_least h17) kX8_99 rfl rfl ⟨rfl, rfl⟩ ⟨Nat.le_of_ble_eq_true rfl, Nat.le_of_ble_eq_true rfl⟩ ⟨Nat.zero_le _, Nat.zero_le _⟩ (Nat.le_of_ble_eq_true rfl) dX8_partOf_73 (fun H locs hw => ?_)
          refine lv_lstore (lv' := [(8, .long v16), (6, .long 1000000), (4, .long 20000000), (0, .ref (xAd κ 245)), (1, .long x1), (3, .int x3)]) hx hb dX8_partOf_76 hl (by decide) rfl (fun ls hl => ?_)
          refine lv_lload hx hb dX8_partOf_78 (lv_at hl 0 rfl) ?_
          refine lv_lload hx hb dX8_partOf_80 (lv_at hl 2 rfl) ?_
          refine x_lcmp_le (tgt := 94) hx hb dX8_partOf_82 dX8_partOf_83 (by decide) (fun c18 => ?_) (fun c18 => ?_)
          · have hf := xif_t c18 hf
            refine lv_lconst (v := 0) hx hb dX8_partOf_94 (by decide) ?_
            cases hf
            exact K _ _ _ _ dX8_partOf_95 hw
          · have hf := xif_f c18 hf
            refine lv_lload hx hb dX8_partOf_86 (lv_at hl 0 rfl) ?_
            refine lv_lload hx hb dX8_partOf_88 (lv_at hl 2 rfl) ?_
            refine lv_lsub hx hb dX8_partOf_90 ?_
            refine lv_goto (tgt := 95) hx hb dX8_partOf_91 (by decide) ?_
            cases hf
            exact K _ _ _ _ dX8_partOf_95 hw
      · have hf := xif_t c3 hf
        refine x_ldc2 hc w_constantLong_RX8_95_5000000 dX8_partOf_24 ?_
        refine lv_goto (tgt := 33) hx hb dX8_partOf_27 (by decide) ?_
        refine lv_lstore (lv' := [(4, .long 5000000), (0, .ref (xAd κ 245)), (1, .long x1), (3, .int x3)]) hx hb dX8_partOf_33 hl (by decide) rfl (fun ls hl => ?_)
        refine lv_iload_n hx hb dX8_partOf_35 rfl (lv_at hl 3 rfl) ?_
        refine lv_if_ne (tgt := 45) hx hb dX8_partOf_36 (by decide) (fun c19 => ?_) (fun c19 => ?_)
        · have hf := xif_f c19 hf
          refine lv_iload_n hx hb dX8_partOf_45 rfl (lv_at hl 3 rfl) ?_
          refine lv_iconst (v := 1) hx hb dX8_partOf_46 (by decide) ?_
          refine lv_icmp_ne (tgt := 56) hx hb dX8_partOf_47 (by decide) (fun c20 => ?_) (fun c20 => ?_)
          · have hf := xif_f c20 hf
            refine lv_iload_n hx hb dX8_partOf_56 rfl (lv_at hl 3 rfl) ?_
            refine lv_iconst (v := 2) hx hb dX8_partOf_57 (by decide) ?_
            refine lv_icmp_ne (tgt := 67) hx hb dX8_partOf_58 (by decide) (fun c21 => ?_) (fun c21 => ?_)
            · have hf := xif_f c21 hf
              refine lv_lload_n hx hb dX8_partOf_67 rfl (lv_at hl 2 rfl) ?_
              refine lv_lstore (lv' := [(6, .long x1), (4, .long 5000000), (0, .ref (xAd κ 245)), (1, .long x1), (3, .int x3)]) hx hb dX8_partOf_68 hl (by decide) rfl (fun ls hl => ?_)
              refine lv_lload_n hx hb dX8_partOf_70 rfl (lv_at hl 3 rfl) ?_
              refine lv_lload hx hb dX8_partOf_71 (lv_at hl 0 rfl) ?_
              obtain ⟨v22, h23, hf⟩ := xb1_of hf
              refine x_calllS (As := [.long x1, .long x1]) (rest := []) (σ' := (wA, wT, wG, wM, (uF0, uF1, uF2, uF3, uF4, uF5, uF6, uF7, uF8, uF9, uF10, uF11, uF12, uF13, uF14, uF15, uF16, uF17, uF18), wO)) hc hw hl.1 (m_X8_least h23) kX8_99 rfl rfl ⟨rfl, rfl⟩ ⟨Nat.le_of_ble_eq_true rfl, Nat.le_of_ble_eq_true rfl⟩ ⟨Nat.zero_le _, Nat.zero_le _⟩ (Nat.le_of_ble_eq_true rfl) dX8_partOf_73 (fun H locs hw => ?_)
              refine lv_lstore (lv' := [(8, .long v22), (6, .long x1), (4, .long 5000000), (0, .ref (xAd κ 245)), (1, .long x1), (3, .int x3)]) hx hb dX8_partOf_76 hl (by decide) rfl (fun ls hl => ?_)
              refine lv_lload hx hb dX8_partOf_78 (lv_at hl 0 rfl) ?_
              refine lv_lload hx hb dX8_partOf_80 (lv_at hl 2 rfl) ?_
              refine x_lcmp_le (tgt := 94) hx hb dX8_partOf_82 dX8_partOf_83 (by decide) (fun c24 => ?_) (fun c24 => ?_)
              · have hf := xif_t c24 hf
                refine lv_lconst (v := 0) hx hb dX8_partOf_94 (by decide) ?_
                cases hf
                exact K _ _ _ _ dX8_partOf_95 hw
              · have hf := xif_f c24 hf
                refine lv_lload hx hb dX8_partOf_86 (lv_at hl 0 rfl) ?_
                refine lv_lload hx hb dX8_partOf_88 (lv_at hl 2 rfl) ?_
                refine lv_lsub hx hb dX8_partOf_90 ?_
                refine lv_goto (tgt := 95) hx hb dX8_partOf_91 (by decide) ?_
                cases hf
                exact K _ _ _ _ dX8_partOf_95 hw
            · have hf := xif_t c21 hf
              refine x_ldc2 hc w_constantLong_RX8_97_20000000 dX8_partOf_61 ?_
              refine lv_goto (tgt := 68) hx hb dX8_partOf_64 (by decide) ?_
              refine lv_lstore (lv' := [(6, .long 20000000), (4, .long 5000000), (0, .ref (xAd κ 245)), (1, .long x1), (3, .int x3)]) hx hb dX8_partOf_68 hl (by decide) rfl (fun ls hl => ?_)
              refine lv_lload_n hx hb dX8_partOf_70 rfl (lv_at hl 3 rfl) ?_
              refine lv_lload hx hb dX8_partOf_71 (lv_at hl 0 rfl) ?_
              obtain ⟨v25, h26, hf⟩ := xb1_of hf
              refine x_calllS (As := [.long x1, .long 20000000]) (rest := []) (σ' := (wA, wT, wG, wM, (uF0, uF1, uF2, uF3, uF4, uF5, uF6, uF7, uF8, uF9, uF10, uF11, uF12, uF13, uF14, uF15, uF16, uF17, uF18), wO)) hc hw hl.1 (m_X8_least h26) kX8_99 rfl rfl ⟨rfl, rfl⟩ ⟨Nat.le_of_ble_eq_true rfl, Nat.le_of_ble_eq_true rfl⟩ ⟨Nat.zero_le _, Nat.zero_le _⟩ (Nat.le_of_ble_eq_true rfl) dX8_partOf_73 (fun H locs hw => ?_)
              refine lv_lstore (lv' := [(8, .long v25), (6, .long 20000000), (4, .long 5000000), (0, .ref (xAd κ 245)), (1, .long x1), (3, .int x3)]) hx hb dX8_partOf_76 hl (by decide) rfl (fun ls hl => ?_)
              refine lv_lload hx hb dX8_partOf_78 (lv_at hl 0 rfl) ?_
              refine lv_lload hx hb dX8_partOf_80 (lv_at hl 2 rfl) ?_
              refine x_lcmp_le (tgt := 94) hx hb dX8_partOf_82 dX8_partOf_83 (by decide) (fun c27 => ?_) (fun c27 => ?_)
              · have hf := xif_t c27 hf
                refine lv_lconst (v := 0) hx hb dX8_partOf_94 (by decide) ?_
                cases hf
                exact K _ _ _ _ dX8_partOf_95 hw
              · have hf := xif_f c27 hf
                refine lv_lload hx hb dX8_partOf_86 (lv_at hl 0 rfl) ?_
                refine lv_lload hx hb dX8_partOf_88 (lv_at hl 2 rfl) ?_
                refine lv_lsub hx hb dX8_partOf_90 ?_
                refine lv_goto (tgt := 95) hx hb dX8_partOf_91 (by decide) ?_
                cases hf
                exact K _ _ _ _ dX8_partOf_95 hw
          · have hf := xif_t c20 hf
            refine x_ldc2 hc w_constantLong_RX8_95_5000000 dX8_partOf_50 ?_
            refine lv_goto (tgt := 68) hx hb dX8_partOf_53 (by decide) ?_
            refine lv_lstore (lv' := [(6, .long 5000000), (4, .long 5000000), (0, .ref (xAd κ 245)), (1, .long x1), (3, .int x3)]) hx hb dX8_partOf_68 hl (by decide) rfl (fun ls hl => ?_)
            refine lv_lload_n hx hb dX8_partOf_70 rfl (lv_at hl 3 rfl) ?_
            refine lv_lload hx hb dX8_partOf_71 (lv_at hl 0 rfl) ?_
            obtain ⟨v28, h29, hf⟩ := xb1_of hf
            refine x_calllS (As := [.long x1, .long 5000000]) (rest := []) (σ' := (wA, wT, wG, wM, (uF0, uF1, uF2, uF3, uF4, uF5, uF6, uF7, uF8, uF9, uF10, uF11, uF12, uF13, uF14, uF15, uF16, uF17, uF18), wO)) hc hw hl.1 (m_X8_least h29) kX8_99 rfl rfl ⟨rfl, rfl⟩ ⟨Nat.le_of_ble_eq_true rfl, Nat.le_of_ble_eq_true rfl⟩ ⟨Nat.zero_le _, Nat.zero_le _⟩ (Nat.le_of_ble_eq_true rfl) dX8_partOf_73 (fun H locs hw => ?_)
            refine lv_lstore (lv' := [(8, .long v28), (6, .long 5000000), (4, .long 5000000), (0, .ref (xAd κ 245)), (1, .long x1), (3, .int x3)]) hx hb dX8_partOf_76 hl (by decide) rfl (fun ls hl => ?_)
            refine lv_lload hx hb dX8_partOf_78 (lv_at hl 0 rfl) ?_
            refine lv_lload hx hb dX8_partOf_80 (lv_at hl 2 rfl) ?_
            refine x_lcmp_le (tgt := 94) hx hb dX8_partOf_82 dX8_partOf_83 (by decide) (fun c30 => ?_) (fun c30 => ?_)
            · have hf := xif_t c30 hf
              refine lv_lconst (v := 0) hx hb dX8_partOf_94 (by decide) ?_
              cases hf
              exact K _ _ _ _ dX8_partOf_95 hw
            · have hf := xif_f c30 hf
              refine lv_lload hx hb dX8_partOf_86 (lv_at hl 0 rfl) ?_
              refine lv_lload hx hb dX8_partOf_88 (lv_at hl 2 rfl) ?_
              refine lv_lsub hx hb dX8_partOf_90 ?_
              refine lv_goto (tgt := 95) hx hb dX8_partOf_91 (by decide) ?_
              cases hf
              exact K _ _ _ _ dX8_partOf_95 hw
        · have hf := xif_t c19 hf
          refine x_ldc2 hc w_constantLong_RX8_93_1000000 dX8_partOf_39 ?_
          refine lv_goto (tgt := 68) hx hb dX8_partOf_42 (by decide) ?_
          refine lv_lstore (lv' := [(6, .long 1000000), (4, .long 5000000), (0, .ref (xAd κ 245)), (1, .long x1), (3, .int x3)]) hx hb dX8_partOf_68 hl (by decide) rfl (fun ls hl => ?_)
          refine lv_lload_n hx hb dX8_partOf_70 rfl (lv_at hl 3 rfl) ?_
          refine lv_lload hx hb dX8_partOf_71 (lv_at hl 0 rfl) ?_
          obtain ⟨v31, h32, hf⟩ := xb1_of hf
          refine x_calllS (As := [.long x1, .long 1000000]) (rest := []) (σ' := (wA, wT, wG, wM, (uF0, uF1, uF2, uF3, uF4, uF5, uF6, uF7, uF8, uF9, uF10, uF11, uF12, uF13, uF14, uF15, uF16, uF17, uF18), wO)) hc hw hl.1 (m_X8_least h32) kX8_99 rfl rfl ⟨rfl, rfl⟩ ⟨Nat.le_of_ble_eq_true rfl, Nat.le_of_ble_eq_true rfl⟩ ⟨Nat.zero_le _, Nat.zero_le _⟩ (Nat.le_of_ble_eq_true rfl) dX8_partOf_73 (fun H locs hw => ?_)
          refine lv_lstore (lv' := [(8, .long v31), (6, .long 1000000), (4, .long 5000000), (0, .ref (xAd κ 245)), (1, .long x1), (3, .int x3)]) hx hb dX8_partOf_76 hl (by decide) rfl (fun ls hl => ?_)
          refine lv_lload hx hb dX8_partOf_78 (lv_at hl 0 rfl) ?_
          refine lv_lload hx hb dX8_partOf_80 (lv_at hl 2 rfl) ?_
          refine x_lcmp_le (tgt := 94) hx hb dX8_partOf_82 dX8_partOf_83 (by decide) (fun c33 => ?_) (fun c33 => ?_)
          · have hf := xif_t c33 hf
            refine lv_lconst (v := 0) hx hb dX8_partOf_94 (by decide) ?_
            cases hf
            exact K _ _ _ _ dX8_partOf_95 hw
          · have hf := xif_f c33 hf
            refine lv_lload hx hb dX8_partOf_86 (lv_at hl 0 rfl) ?_
            refine lv_lload hx hb dX8_partOf_88 (lv_at hl 2 rfl) ?_
            refine lv_lsub hx hb dX8_partOf_90 ?_
            refine lv_goto (tgt := 95) hx hb dX8_partOf_91 (by decide) ?_
            cases hf
            exact K _ _ _ _ dX8_partOf_95 hw
    · have hf := xif_t c2 hf
      refine x_ldc2 hc w_constantLong_RX8_93_1000000 dX8_partOf_13 ?_
      refine lv_goto (tgt := 33) hx hb dX8_partOf_16 (by decide) ?_
      refine lv_lstore (lv' := [(4, .long 1000000), (0, .ref (xAd κ 245)), (1, .long x1), (3, .int x3)]) hx hb dX8_partOf_33 hl (by decide) rfl (fun ls hl => ?_)
      refine lv_iload_n hx hb dX8_partOf_35 rfl (lv_at hl 3 rfl) ?_
      refine lv_if_ne (tgt := 45) hx hb dX8_partOf_36 (by decide) (fun c34 => ?_) (fun c34 => ?_)
      · have hf := xif_f c34 hf
        refine lv_iload_n hx hb dX8_partOf_45 rfl (lv_at hl 3 rfl) ?_
        refine lv_iconst (v := 1) hx hb dX8_partOf_46 (by decide) ?_
        refine lv_icmp_ne (tgt := 56) hx hb dX8_partOf_47 (by decide) (fun c35 => ?_) (fun c35 => ?_)
        · have hf := xif_f c35 hf
          refine lv_iload_n hx hb dX8_partOf_56 rfl (lv_at hl 3 rfl) ?_
          refine lv_iconst (v := 2) hx hb dX8_partOf_57 (by decide) ?_
          refine lv_icmp_ne (tgt := 67) hx hb dX8_partOf_58 (by decide) (fun c36 => ?_) (fun c36 => ?_)
          · have hf := xif_f c36 hf
            refine lv_lload_n hx hb dX8_partOf_67 rfl (lv_at hl 2 rfl) ?_
            refine lv_lstore (lv' := [(6, .long x1), (4, .long 1000000), (0, .ref (xAd κ 245)), (1, .long x1), (3, .int x3)]) hx hb dX8_partOf_68 hl (by decide) rfl (fun ls hl => ?_)
            refine lv_lload_n hx hb dX8_partOf_70 rfl (lv_at hl 3 rfl) ?_
            refine lv_lload hx hb dX8_partOf_71 (lv_at hl 0 rfl) ?_
            obtain ⟨v37, h38, hf⟩ := xb1_of hf
            refine x_calllS (As := [.long x1, .long x1]) (rest := []) (σ' := (wA, wT, wG, wM, (uF0, uF1, uF2, uF3, uF4, uF5, uF6, uF7, uF8, uF9, uF10, uF11, uF12, uF13, uF14, uF15, uF16, uF17, uF18), wO)) hc hw hl.1 (m_X8_least h38) kX8_99 rfl rfl ⟨rfl, rfl⟩ ⟨Nat.le_of_ble_eq_true rfl, Nat.le_of_ble_eq_true rfl⟩ ⟨Nat.zero_le _, Nat.zero_le _⟩ (Nat.le_of_ble_eq_true rfl) dX8_partOf_73 (fun H locs hw => ?_)
            refine lv_lstore (lv' := [(8, .long v37), (6, .long x1), (4, .long 1000000), (0, .ref (xAd κ 245)), (1, .long x1), (3, .int x3)]) hx hb dX8_partOf_76 hl (by decide) rfl (fun ls hl => ?_)
            refine lv_lload hx hb dX8_partOf_78 (lv_at hl 0 rfl) ?_
            refine lv_lload hx hb dX8_partOf_80 (lv_at hl 2 rfl) ?_
            refine x_lcmp_le (tgt := 94) hx hb dX8_partOf_82 dX8_partOf_83 (by decide) (fun c39 => ?_) (fun c39 => ?_)
            · have hf := xif_t c39 hf
              refine lv_lconst (v := 0) hx hb dX8_partOf_94 (by decide) ?_
              cases hf
              exact K _ _ _ _ dX8_partOf_95 hw
            · have hf := xif_f c39 hf
              refine lv_lload hx hb dX8_partOf_86 (lv_at hl 0 rfl) ?_
              refine lv_lload hx hb dX8_partOf_88 (lv_at hl 2 rfl) ?_
              refine lv_lsub hx hb dX8_partOf_90 ?_
              refine lv_goto (tgt := 95) hx hb dX8_partOf_91 (by decide) ?_
              cases hf
              exact K _ _ _ _ dX8_partOf_95 hw
          · have hf := xif_t c36 hf
            refine x_ldc2 hc w_constantLong_RX8_97_20000000 dX8_partOf_61 ?_
            refine lv_goto (tgt := 68) hx hb dX8_partOf_64 (by decide) ?_
            refine lv_lstore (lv' := [(6, .long 20000000), (4, .long 1000000), (0, .ref (xAd κ 245)), (1, .long x1), (3, .int x3)]) hx hb dX8_partOf_68 hl (by decide) rfl (fun ls hl => ?_)
            refine lv_lload_n hx hb dX8_partOf_70 rfl (lv_at hl 3 rfl) ?_
            refine lv_lload hx hb dX8_partOf_71 (lv_at hl 0 rfl) ?_
            obtain ⟨v40, h41, hf⟩ := xb1_of hf
            refine x_calllS (As := [.long x1, .long 20000000]) (rest := []) (σ' := (wA, wT, wG, wM, (uF0, uF1, uF2, uF3, uF4, uF5, uF6, uF7, uF8, uF9, uF10, uF11, uF12, uF13, uF14, uF15, uF16, uF17, uF18), wO)) hc hw hl.1 (m_X8_least h41) kX8_99 rfl rfl ⟨rfl, rfl⟩ ⟨Nat.le_of_ble_eq_true rfl, Nat.le_of_ble_eq_true rfl⟩ ⟨Nat.zero_le _, Nat.zero_le _⟩ (Nat.le_of_ble_eq_true rfl) dX8_partOf_73 (fun H locs hw => ?_)
            refine lv_lstore (lv' := [(8, .long v40), (6, .long 20000000), (4, .long 1000000), (0, .ref (xAd κ 245)), (1, .long x1), (3, .int x3)]) hx hb dX8_partOf_76 hl (by decide) rfl (fun ls hl => ?_)
            refine lv_lload hx hb dX8_partOf_78 (lv_at hl 0 rfl) ?_
            refine lv_lload hx hb dX8_partOf_80 (lv_at hl 2 rfl) ?_
            refine x_lcmp_le (tgt := 94) hx hb dX8_partOf_82 dX8_partOf_83 (by decide) (fun c42 => ?_) (fun c42 => ?_)
            · have hf := xif_t c42 hf
              refine lv_lconst (v := 0) hx hb dX8_partOf_94 (by decide) ?_
              cases hf
              exact K _ _ _ _ dX8_partOf_95 hw
            · have hf := xif_f c42 hf
              refine lv_lload hx hb dX8_partOf_86 (lv_at hl 0 rfl) ?_
              refine lv_lload hx hb dX8_partOf_88 (lv_at hl 2 rfl) ?_
              refine lv_lsub hx hb dX8_partOf_90 ?_
              refine lv_goto (tgt := 95) hx hb dX8_partOf_91 (by decide) ?_
              cases hf
              exact K _ _ _ _ dX8_partOf_95 hw
        · have hf := xif_t c35 hf
          refine x_ldc2 hc w_constantLong_RX8_95_5000000 dX8_partOf_50 ?_
          refine lv_goto (tgt := 68) hx hb dX8_partOf_53 (by decide) ?_
          refine lv_lstore (lv' := [(6, .long 5000000), (4, .long 1000000), (0, .ref (xAd κ 245)), (1, .long x1), (3, .int x3)]) hx hb dX8_partOf_68 hl (by decide) rfl (fun ls hl => ?_)
          refine lv_lload_n hx hb dX8_partOf_70 rfl (lv_at hl 3 rfl) ?_
          refine lv_lload hx hb dX8_partOf_71 (lv_at hl 0 rfl) ?_
          obtain ⟨v43, h44, hf⟩ := xb1_of hf
          refine x_calllS (As := [.long x1, .long 5000000]) (rest := []) (σ' := (wA, wT, wG, wM, (uF0, uF1, uF2, uF3, uF4, uF5, uF6, uF7, uF8, uF9, uF10, uF11, uF12, uF13, uF14, uF15, uF16, uF17, uF18), wO)) hc hw hl.1 (m_X8_least h44) kX8_99 rfl rfl ⟨rfl, rfl⟩ ⟨Nat.le_of_ble_eq_true rfl, Nat.le_of_ble_eq_true rfl⟩ ⟨Nat.zero_le _, Nat.zero_le _⟩ (Nat.le_of_ble_eq_true rfl) dX8_partOf_73 (fun H locs hw => ?_)
          refine lv_lstore (lv' := [(8, .long v43), (6, .long 5000000), (4, .long 1000000), (0, .ref (xAd κ 245)), (1, .long x1), (3, .int x3)]) hx hb dX8_partOf_76 hl (by decide) rfl (fun ls hl => ?_)
          refine lv_lload hx hb dX8_partOf_78 (lv_at hl 0 rfl) ?_
          refine lv_lload hx hb dX8_partOf_80 (lv_at hl 2 rfl) ?_
          refine x_lcmp_le (tgt := 94) hx hb dX8_partOf_82 dX8_partOf_83 (by decide) (fun c45 => ?_) (fun c45 => ?_)
          · have hf := xif_t c45 hf
            refine lv_lconst (v := 0) hx hb dX8_partOf_94 (by decide) ?_
            cases hf
            exact K _ _ _ _ dX8_partOf_95 hw
          · have hf := xif_f c45 hf
            refine lv_lload hx hb dX8_partOf_86 (lv_at hl 0 rfl) ?_
            refine lv_lload hx hb dX8_partOf_88 (lv_at hl 2 rfl) ?_
            refine lv_lsub hx hb dX8_partOf_90 ?_
            refine lv_goto (tgt := 95) hx hb dX8_partOf_91 (by decide) ?_
            cases hf
            exact K _ _ _ _ dX8_partOf_95 hw
      · have hf := xif_t c34 hf
        refine x_ldc2 hc w_constantLong_RX8_93_1000000 dX8_partOf_39 ?_
        refine lv_goto (tgt := 68) hx hb dX8_partOf_42 (by decide) ?_
        refine lv_lstore (lv' := [(6, .long 1000000), (4, .long 1000000), (0, .ref (xAd κ 245)), (1, .long x1), (3, .int x3)]) hx hb dX8_partOf_68 hl (by decide) rfl (fun ls hl => ?_)
        refine lv_lload_n hx hb dX8_partOf_70 rfl (lv_at hl 3 rfl) ?_
        refine lv_lload hx hb dX8_partOf_71 (lv_at hl 0 rfl) ?_
        obtain ⟨v46, h47, hf⟩ := xb1_of hf
        refine x_calllS (As := [.long x1, .long 1000000]) (rest := []) (σ' := (wA, wT, wG, wM, (uF0, uF1, uF2, uF3, uF4, uF5, uF6, uF7, uF8, uF9, uF10, uF11, uF12, uF13, uF14, uF15, uF16, uF17, uF18), wO)) hc hw hl.1 (m_X8_least h47) kX8_99 rfl rfl ⟨rfl, rfl⟩ ⟨Nat.le_of_ble_eq_true rfl, Nat.le_of_ble_eq_true rfl⟩ ⟨Nat.zero_le _, Nat.zero_le _⟩ (Nat.le_of_ble_eq_true rfl) dX8_partOf_73 (fun H locs hw => ?_)
        refine lv_lstore (lv' := [(8, .long v46), (6, .long 1000000), (4, .long 1000000), (0, .ref (xAd κ 245)), (1, .long x1), (3, .int x3)]) hx hb dX8_partOf_76 hl (by decide) rfl (fun ls hl => ?_)
        refine lv_lload hx hb dX8_partOf_78 (lv_at hl 0 rfl) ?_
        refine lv_lload hx hb dX8_partOf_80 (lv_at hl 2 rfl) ?_
        refine x_lcmp_le (tgt := 94) hx hb dX8_partOf_82 dX8_partOf_83 (by decide) (fun c48 => ?_) (fun c48 => ?_)
        · have hf := xif_t c48 hf
          refine lv_lconst (v := 0) hx hb dX8_partOf_94 (by decide) ?_
          cases hf
          exact K _ _ _ _ dX8_partOf_95 hw
        · have hf := xif_f c48 hf
          refine lv_lload hx hb dX8_partOf_86 (lv_at hl 0 rfl) ?_
          refine lv_lload hx hb dX8_partOf_88 (lv_at hl 2 rfl) ?_
          refine lv_lsub hx hb dX8_partOf_90 ?_
          refine lv_goto (tgt := 95) hx hb dX8_partOf_91 (by decide) ?_
          cases hf
          exact K _ _ _ _ dX8_partOf_95 hw
  · have hf := xif_t c1 hf
    refine lv_lconst (v := 0) hx hb dX8_partOf_4 (by decide) ?_
    refine lv_goto (tgt := 33) hx hb dX8_partOf_5 (by decide) ?_
    refine lv_lstore (lv' := [(4, .long 0), (0, .ref (xAd κ 245)), (1, .long x1), (3, .int x3)]) hx hb dX8_partOf_33 hl (by decide) rfl (fun ls hl => ?_)
    refine lv_iload_n hx hb dX8_partOf_35 rfl (lv_at hl 3 rfl) ?_
    refine lv_if_ne (tgt := 45) hx hb dX8_partOf_36 (by decide) (fun c49 => ?_) (fun c49 => ?_)
    · have hf := xif_f c49 hf
      refine lv_iload_n hx hb dX8_partOf_45 rfl (lv_at hl 3 rfl) ?_
      refine lv_iconst (v := 1) hx hb dX8_partOf_46 (by decide) ?_
      refine lv_icmp_ne (tgt := 56) hx hb dX8_partOf_47 (by decide) (fun c50 => ?_) (fun c50 => ?_)
      · have hf := xif_f c50 hf
        refine lv_iload_n hx hb dX8_partOf_56 rfl (lv_at hl 3 rfl) ?_
        refine lv_iconst (v := 2) hx hb dX8_partOf_57 (by decide) ?_
        refine lv_icmp_ne (tgt := 67) hx hb dX8_partOf_58 (by decide) (fun c51 => ?_) (fun c51 => ?_)
        · have hf := xif_f c51 hf
          refine lv_lload_n hx hb dX8_partOf_67 rfl (lv_at hl 2 rfl) ?_
          refine lv_lstore (lv' := [(6, .long x1), (4, .long 0), (0, .ref (xAd κ 245)), (1, .long x1), (3, .int x3)]) hx hb dX8_partOf_68 hl (by decide) rfl (fun ls hl => ?_)
          refine lv_lload_n hx hb dX8_partOf_70 rfl (lv_at hl 3 rfl) ?_
          refine lv_lload hx hb dX8_partOf_71 (lv_at hl 0 rfl) ?_
          obtain ⟨v52, h53, hf⟩ := xb1_of hf
          refine x_calllS (As := [.long x1, .long x1]) (rest := []) (σ' := (wA, wT, wG, wM, (uF0, uF1, uF2, uF3, uF4, uF5, uF6, uF7, uF8, uF9, uF10, uF11, uF12, uF13, uF14, uF15, uF16, uF17, uF18), wO)) hc hw hl.1 (m_X8_least h53) kX8_99 rfl rfl ⟨rfl, rfl⟩ ⟨Nat.le_of_ble_eq_true rfl, Nat.le_of_ble_eq_true rfl⟩ ⟨Nat.zero_le _, Nat.zero_le _⟩ (Nat.le_of_ble_eq_true rfl) dX8_partOf_73 (fun H locs hw => ?_)
          refine lv_lstore (lv' := [(8, .long v52), (6, .long x1), (4, .long 0), (0, .ref (xAd κ 245)), (1, .long x1), (3, .int x3)]) hx hb dX8_partOf_76 hl (by decide) rfl (fun ls hl => ?_)
          refine lv_lload hx hb dX8_partOf_78 (lv_at hl 0 rfl) ?_
          refine lv_lload hx hb dX8_partOf_80 (lv_at hl 2 rfl) ?_
          refine x_lcmp_le (tgt := 94) hx hb dX8_partOf_82 dX8_partOf_83 (by decide) (fun c54 => ?_) (fun c54 => ?_)
          · have hf := xif_t c54 hf
            refine lv_lconst (v := 0) hx hb dX8_partOf_94 (by decide) ?_
            cases hf
            exact K _ _ _ _ dX8_partOf_95 hw
          · have hf := xif_f c54 hf
            refine lv_lload hx hb dX8_partOf_86 (lv_at hl 0 rfl) ?_
            refine lv_lload hx hb dX8_partOf_88 (lv_at hl 2 rfl) ?_
            refine lv_lsub hx hb dX8_partOf_90 ?_
            refine lv_goto (tgt := 95) hx hb dX8_partOf_91 (by decide) ?_
            cases hf
            exact K _ _ _ _ dX8_partOf_95 hw
        · have hf := xif_t c51 hf
          refine x_ldc2 hc w_constantLong_RX8_97_20000000 dX8_partOf_61 ?_
          refine lv_goto (tgt := 68) hx hb dX8_partOf_64 (by decide) ?_
          refine lv_lstore (lv' := [(6, .long 20000000), (4, .long 0), (0, .ref (xAd κ 245)), (1, .long x1), (3, .int x3)]) hx hb dX8_partOf_68 hl (by decide) rfl (fun ls hl => ?_)
          refine lv_lload_n hx hb dX8_partOf_70 rfl (lv_at hl 3 rfl) ?_
          refine lv_lload hx hb dX8_partOf_71 (lv_at hl 0 rfl) ?_
          obtain ⟨v55, h56, hf⟩ := xb1_of hf
          refine x_calllS (As := [.long x1, .long 20000000]) (rest := []) (σ' := (wA, wT, wG, wM, (uF0, uF1, uF2, uF3, uF4, uF5, uF6, uF7, uF8, uF9, uF10, uF11, uF12, uF13, uF14, uF15, uF16, uF17, uF18), wO)) hc hw hl.1 (m_X8_least h56) kX8_99 rfl rfl ⟨rfl, rfl⟩ ⟨Nat.le_of_ble_eq_true rfl, Nat.le_of_ble_eq_true rfl⟩ ⟨Nat.zero_le _, Nat.zero_le _⟩ (Nat.le_of_ble_eq_true rfl) dX8_partOf_73 (fun H locs hw => ?_)
          refine lv_lstore (lv' := [(8, .long v55), (6, .long 20000000), (4, .long 0), (0, .ref (xAd κ 245)), (1, .long x1), (3, .int x3)]) hx hb dX8_partOf_76 hl (by decide) rfl (fun ls hl => ?_)
          refine lv_lload hx hb dX8_partOf_78 (lv_at hl 0 rfl) ?_
          refine lv_lload hx hb dX8_partOf_80 (lv_at hl 2 rfl) ?_
          refine x_lcmp_le (tgt := 94) hx hb dX8_partOf_82 dX8_partOf_83 (by decide) (fun c57 => ?_) (fun c57 => ?_)
          · have hf := xif_t c57 hf
            refine lv_lconst (v := 0) hx hb dX8_partOf_94 (by decide) ?_
            cases hf
            exact K _ _ _ _ dX8_partOf_95 hw
          · have hf := xif_f c57 hf
            refine lv_lload hx hb dX8_partOf_86 (lv_at hl 0 rfl) ?_
            refine lv_lload hx hb dX8_partOf_88 (lv_at hl 2 rfl) ?_
            refine lv_lsub hx hb dX8_partOf_90 ?_
            refine lv_goto (tgt := 95) hx hb dX8_partOf_91 (by decide) ?_
            cases hf
            exact K _ _ _ _ dX8_partOf_95 hw
      · have hf := xif_t c50 hf
        refine x_ldc2 hc w_constantLong_RX8_95_5000000 dX8_partOf_50 ?_
        refine lv_goto (tgt := 68) hx hb dX8_partOf_53 (by decide) ?_
        refine lv_lstore (lv' := [(6, .long 5000000), (4, .long 0), (0, .ref (xAd κ 245)), (1, .long x1), (3, .int x3)]) hx hb dX8_partOf_68 hl (by decide) rfl (fun ls hl => ?_)
        refine lv_lload_n hx hb dX8_partOf_70 rfl (lv_at hl 3 rfl) ?_
        refine lv_lload hx hb dX8_partOf_71 (lv_at hl 0 rfl) ?_
        obtain ⟨v58, h59, hf⟩ := xb1_of hf
        refine x_calllS (As := [.long x1, .long 5000000]) (rest := []) (σ' := (wA, wT, wG, wM, (uF0, uF1, uF2, uF3, uF4, uF5, uF6, uF7, uF8, uF9, uF10, uF11, uF12, uF13, uF14, uF15, uF16, uF17, uF18), wO)) hc hw hl.1 (m_X8_least h59) kX8_99 rfl rfl ⟨rfl, rfl⟩ ⟨Nat.le_of_ble_eq_true rfl, Nat.le_of_ble_eq_true rfl⟩ ⟨Nat.zero_le _, Nat.zero_le _⟩ (Nat.le_of_ble_eq_true rfl) dX8_partOf_73 (fun H locs hw => ?_)
        refine lv_lstore (lv' := [(8, .long v58), (6, .long 5000000), (4, .long 0), (0, .ref (xAd κ 245)), (1, .long x1), (3, .int x3)]) hx hb dX8_partOf_76 hl (by decide) rfl (fun ls hl => ?_)
        refine lv_lload hx hb dX8_partOf_78 (lv_at hl 0 rfl) ?_
        refine lv_lload hx hb dX8_partOf_80 (lv_at hl 2 rfl) ?_
        refine x_lcmp_le (tgt := 94) hx hb dX8_partOf_82 dX8_partOf_83 (by decide) (fun c60 => ?_) (fun c60 => ?_)
        · have hf := xif_t c60 hf
          refine lv_lconst (v := 0) hx hb dX8_partOf_94 (by decide) ?_
          cases hf
          exact K _ _ _ _ dX8_partOf_95 hw
        · have hf := xif_f c60 hf
          refine lv_lload hx hb dX8_partOf_86 (lv_at hl 0 rfl) ?_
          refine lv_lload hx hb dX8_partOf_88 (lv_at hl 2 rfl) ?_
          refine lv_lsub hx hb dX8_partOf_90 ?_
          refine lv_goto (tgt := 95) hx hb dX8_partOf_91 (by decide) ?_
          cases hf
          exact K _ _ _ _ dX8_partOf_95 hw
    · have hf := xif_t c49 hf
      refine x_ldc2 hc w_constantLong_RX8_93_1000000 dX8_partOf_39 ?_
      refine lv_goto (tgt := 68) hx hb dX8_partOf_42 (by decide) ?_
      refine lv_lstore (lv' := [(6, .long 1000000), (4, .long 0), (0, .ref (xAd κ 245)), (1, .long x1), (3, .int x3)]) hx hb dX8_partOf_68 hl (by decide) rfl (fun ls hl => ?_)
      refine lv_lload_n hx hb dX8_partOf_70 rfl (lv_at hl 3 rfl) ?_
      refine lv_lload hx hb dX8_partOf_71 (lv_at hl 0 rfl) ?_
      obtain ⟨v61, h62, hf⟩ := xb1_of hf
      refine x_calllS (As := [.long x1, .long 1000000]) (rest := []) (σ' := (wA, wT, wG, wM, (uF0, uF1, uF2, uF3, uF4, uF5, uF6, uF7, uF8, uF9, uF10, uF11, uF12, uF13, uF14, uF15, uF16, uF17, uF18), wO)) hc hw hl.1 (m_X8_least h62) kX8_99 rfl rfl ⟨rfl, rfl⟩ ⟨Nat.le_of_ble_eq_true rfl, Nat.le_of_ble_eq_true rfl⟩ ⟨Nat.zero_le _, Nat.zero_le _⟩ (Nat.le_of_ble_eq_true rfl) dX8_partOf_73 (fun H locs hw => ?_)
      refine lv_lstore (lv' := [(8, .long v61), (6, .long 1000000), (4, .long 0), (0, .ref (xAd κ 245)), (1, .long x1), (3, .int x3)]) hx hb dX8_partOf_76 hl (by decide) rfl (fun ls hl => ?_)
      refine lv_lload hx hb dX8_partOf_78 (lv_at hl 0 rfl) ?_
      refine lv_lload hx hb dX8_partOf_80 (lv_at hl 2 rfl) ?_
      refine x_lcmp_le (tgt := 94) hx hb dX8_partOf_82 dX8_partOf_83 (by decide) (fun c63 => ?_) (fun c63 => ?_)
      · have hf := xif_t c63 hf
        refine lv_lconst (v := 0) hx hb dX8_partOf_94 (by decide) ?_
        cases hf
        exact K _ _ _ _ dX8_partOf_95 hw
      · have hf := xif_f c63 hf
        refine lv_lload hx hb dX8_partOf_86 (lv_at hl 0 rfl) ?_
        refine lv_lload hx hb dX8_partOf_88 (lv_at hl 2 rfl) ?_
        refine lv_lsub hx hb dX8_partOf_90 ?_
        refine lv_goto (tgt := 95) hx hb dX8_partOf_91 (by decide) ?_
        cases hf
        exact K _ _ _ _ dX8_partOf_95 hw
def f_X8_feeOf (x1 : Int64) (x3 : Int32) (uF1 : xF64) : Option Int64 :=
  xb1 (f_X8_partOf x1 x3) fun v1 => (xk (xin (10 + x3) 304) (some (((v1 * (uF1 (10 + x3).toNatClampNeg)) / 10000))))
set_option maxHeartbeats 4000000 in
set_option maxRecDepth 100000 in
theorem m_X8_feeOf {l : Launch} {κ : xKt} {wA : Nat → sAcc} {wT : sTxt} {wG : sRng} {wM : sMai} {wO : sOut}  {x1 : Int64} {x3 : Int32} {uF0 : Int32} {uF1 : xF64} {uF2 : xF64} {uF3 : xF64} {uF4 : xF64} {uF5 : Int32} {uF6 : Int32} {uF7 : Int32} {uF8 : xF32} {uF9 : Int32} {uF10 : Int32} {uF11 : Int64} {uF12 : xF32} {uF13 : Int32} {uF14 : Int32} {uF15 : Int32} {uF16 : xF32} {uF17 : xF32} {uF18 : Int32} {rr : Int64} (hf : f_X8_feeOf x1 x3 uF1 = some rr) : xMl l κ yX8_feeOf cX8_feeOf 4 (some .long) (xR 2 0 0) [.ref (xAd κ 245), .long x1, .int x3] (wA, wT, wG, wM, (uF0, uF1, uF2, uF3, uF4, uF5, uF6, uF7, uF8, uF9, uF10, uF11, uF12, uF13, uF14, uF15, uF16, uF17, uF18), wO) (wA, wT, wG, wM, (uF0, uF1, uF2, uF3, uF4, uF5, uF6, uF7, uF8, uF9, uF10, uF11, uF12, uF13, uF14, uF15, uF16, uF17, uF18), wO) rr := by
  unfold f_X8_feeOf at hf
  refine xMl_of pn_X8 (Nat.le_of_ble_eq_true rfl) ⟨rfl, rfl⟩ ?_
  intro A p e s m args below meth c ls Q hc hw hl K
  have hc : xC κ A p s m args meth c cX8_feeOf RX8 4 (some .long) := hc
  have hx := hc.1.1
  have hb := hc.1.2.1
  have hl : lv_has ls 4 [(0, .ref (xAd κ 245)), (1, .long x1), (3, .int x3)] := hl
  refine lv_aload_n hx hb dX8_feeOf_0 rfl (lv_at hl 0 rfl) ?_
  refine lv_lload_n hx hb dX8_feeOf_1 rfl (lv_at hl 1 rfl) ?_
  refine lv_iload_n hx hb dX8_feeOf_2 rfl (lv_at hl 2 rfl) ?_
  obtain ⟨v1, h2, hf⟩ := xb1_of hf
  refine x_calllV (As := [.long x1, .int x3]) (rest := []) (σ' := (wA, wT, wG, wM, (uF0, uF1, uF2, uF3, uF4, uF5, uF6, uF7, uF8, uF9, uF10, uF11, uF12, uF13, uF14, uF15, uF16, uF17, uF18), wO)) hc hw hl.1 (m_X8_partOf h2) kX8_103 co_245 rfl rfl ⟨rfl, rfl⟩ ⟨Nat.le_of_ble_eq_true rfl, Nat.le_of_ble_eq_true rfl⟩ ⟨Nat.zero_le _, Nat.zero_le _⟩ (Nat.le_of_ble_eq_true rfl) dX8_feeOf_3 (fun H locs hw => ?_)
  refine lv_aload_n hx hb dX8_feeOf_6 rfl (lv_at hl 0 rfl) ?_
  refine x_get (v := .ref (xAd κ 246)) hc hw co_245 fX8_7 rfl dX8_feeOf_7 ?_
  refine lv_bipush (v := 10) hx hb dX8_feeOf_10 (by decide) ?_
  refine lv_iload_n hx hb dX8_feeOf_12 rfl (lv_at hl 2 rfl) ?_
  refine lv_iadd hx hb dX8_feeOf_13 ?_
  obtain ⟨k3, hf⟩ := xk_of hf
  refine x_lald (n := 304) (f := uF1) hc hw co_246 k3 dX8_feeOf_14 ?_
  refine lv_lmul hx hb dX8_feeOf_15 ?_
  refine x_ldc2 hc w_constantLong_RX8_107_10000 dX8_feeOf_16 ?_
  refine lv_ldiv hx hb dX8_feeOf_19 (by decide) ?_
  cases hf
  exact K _ _ _ _ dX8_feeOf_20 hw
def f_X8_tiersOf (x1 : Int64) (uF1 : xF64) : Option Int64 :=
  xb1 (f_X8_feeOf x1 0 uF1) fun v1 => (xb1 (f_X8_feeOf x1 1 uF1) fun v3 => (xb1 (f_X8_feeOf x1 2 uF1) fun v5 => (xb1 (f_X8_feeOf x1 3 uF1) fun v7 => (some ((((v1 + v3) + v5) + v7))))))
set_option maxHeartbeats 4000000 in
set_option maxRecDepth 100000 in
theorem m_X8_tiersOf {l : Launch} {κ : xKt} {wA : Nat → sAcc} {wT : sTxt} {wG : sRng} {wM : sMai} {wO : sOut}  {x1 : Int64} {uF0 : Int32} {uF1 : xF64} {uF2 : xF64} {uF3 : xF64} {uF4 : xF64} {uF5 : Int32} {uF6 : Int32} {uF7 : Int32} {uF8 : xF32} {uF9 : Int32} {uF10 : Int32} {uF11 : Int64} {uF12 : xF32} {uF13 : Int32} {uF14 : Int32} {uF15 : Int32} {uF16 : xF32} {uF17 : xF32} {uF18 : Int32} {rr : Int64} (hf : f_X8_tiersOf x1 uF1 = some rr) : xMl l κ yX8_tiersOf cX8_tiersOf 3 (some .long) (xR 3 0 0) [.ref (xAd κ 245), .long x1] (wA, wT, wG, wM, (uF0, uF1, uF2, uF3, uF4, uF5, uF6, uF7, uF8, uF9, uF10, uF11, uF12, uF13, uF14, uF15, uF16, uF17, uF18), wO) (wA, wT, wG, wM, (uF0, uF1, uF2, uF3, uF4, uF5, uF6, uF7, uF8, uF9, uF10, uF11, uF12, uF13, uF14, uF15, uF16, uF17, uF18), wO) rr := by
  unfold f_X8_tiersOf at hf
  refine xMl_of pn_X8 (Nat.le_of_ble_eq_true rfl) ⟨rfl, rfl⟩ ?_
  intro A p e s m args below meth c ls Q hc hw hl K
  have hc : xC κ A p s m args meth c cX8_tiersOf RX8 3 (some .long) := hc
  have hx := hc.1.1
  have hb := hc.1.2.1
  have hl : lv_has ls 3 [(0, .ref (xAd κ 245)), (1, .long x1)] := hl
  refine lv_aload_n hx hb dX8_tiersOf_0 rfl (lv_at hl 0 rfl) ?_
  refine lv_lload_n hx hb dX8_tiersOf_1 rfl (lv_at hl 1 rfl) ?_
  refine lv_iconst (v := 0) hx hb dX8_tiersOf_2 (by decide) ?_
  obtain ⟨v1, h2, hf⟩ := xb1_of hf
  refine x_calllV (As := [.long x1, .int 0]) (rest := []) (σ' := (wA, wT, wG, wM, (uF0, uF1, uF2, uF3, uF4, uF5, uF6, uF7, uF8, uF9, uF10, uF11, uF12, uF13, uF14, uF15, uF16, uF17, uF18), wO)) hc hw hl.1 (m_X8_feeOf h2) kX8_109 co_245 rfl rfl ⟨rfl, rfl⟩ ⟨Nat.le_of_ble_eq_true rfl, Nat.le_of_ble_eq_true rfl⟩ ⟨Nat.zero_le _, Nat.zero_le _⟩ (Nat.le_of_ble_eq_true rfl) dX8_tiersOf_3 (fun H locs hw => ?_)
  refine lv_aload_n hx hb dX8_tiersOf_6 rfl (lv_at hl 0 rfl) ?_
  refine lv_lload_n hx hb dX8_tiersOf_7 rfl (lv_at hl 1 rfl) ?_
  refine lv_iconst (v := 1) hx hb dX8_tiersOf_8 (by decide) ?_
  obtain ⟨v3, h4, hf⟩ := xb1_of hf
  refine x_calllV (As := [.long x1, .int 1]) (rest := [.long v1]) (σ' := (wA, wT, wG, wM, (uF0, uF1, uF2, uF3, uF4, uF5, uF6, uF7, uF8, uF9, uF10, uF11, uF12, uF13, uF14, uF15, uF16, uF17, uF18), wO)) hc hw hl.1 (m_X8_feeOf h4) kX8_109 co_245 rfl rfl ⟨rfl, rfl⟩ ⟨Nat.le_of_ble_eq_true rfl, Nat.le_of_ble_eq_true rfl⟩ ⟨Nat.zero_le _, Nat.zero_le _⟩ (Nat.le_of_ble_eq_true rfl) dX8_tiersOf_9 (fun H locs hw => ?_)
  refine lv_ladd hx hb dX8_tiersOf_12 ?_
  refine lv_aload_n hx hb dX8_tiersOf_13 rfl (lv_at hl 0 rfl) ?_
  refine lv_lload_n hx hb dX8_tiersOf_14 rfl (lv_at hl 1 rfl) ?_
  refine lv_iconst (v := 2) hx hb dX8_tiersOf_15 (by decide) ?_
  obtain ⟨v5, h6, hf⟩ := xb1_of hf
  refine x_calllV (As := [.long x1, .int 2]) (rest := [.long (v1 + v3)]) (σ' := (wA, wT, wG, wM, (uF0, uF1, uF2, uF3, uF4, uF5, uF6, uF7, uF8, uF9, uF10, uF11, uF12, uF13, uF14, uF15, uF16, uF17, uF18), wO)) hc hw hl.1 (m_X8_feeOf h6) kX8_109 co_245 rfl rfl ⟨rfl, rfl⟩ ⟨Nat.le_of_ble_eq_true rfl, Nat.le_of_ble_eq_true rfl⟩ ⟨Nat.zero_le _, Nat.zero_le _⟩ (Nat.le_of_ble_eq_true rfl) dX8_tiersOf_16 (fun H locs hw => ?_)
  refine lv_ladd hx hb dX8_tiersOf_19 ?_
  refine lv_aload_n hx hb dX8_tiersOf_20 rfl (lv_at hl 0 rfl) ?_
  refine lv_lload_n hx hb dX8_tiersOf_21 rfl (lv_at hl 1 rfl) ?_
  refine lv_iconst (v := 3) hx hb dX8_tiersOf_22 (by decide) ?_
  obtain ⟨v7, h8, hf⟩ := xb1_of hf
  refine x_calllV (As := [.long x1, .int 3]) (rest := [.long ((v1 + v3) + v5)]) (σ' := (wA, wT, wG, wM, (uF0, uF1, uF2, uF3, uF4, uF5, uF6, uF7, uF8, uF9, uF10, uF11, uF12, uF13, uF14, uF15, uF16, uF17, uF18), wO)) hc hw hl.1 (m_X8_feeOf h8) kX8_109 co_245 rfl rfl ⟨rfl, rfl⟩ ⟨Nat.le_of_ble_eq_true rfl, Nat.le_of_ble_eq_true rfl⟩ ⟨Nat.zero_le _, Nat.zero_le _⟩ (Nat.le_of_ble_eq_true rfl) dX8_tiersOf_23 (fun H locs hw => ?_)
  refine lv_ladd hx hb dX8_tiersOf_26 ?_
  cases hf
  exact K _ _ _ _ dX8_tiersOf_27 hw
def f_X8_allFees (fu : Nat) (uF1 : xF64) : Option Int64 :=
  xb1 (f_X8_disputed fu uF1) fun v1 => (xb1 (f_X8_tiersOf v1 uF1) fun v3 => (xb1 (f_X8_claims uF1) fun v5 => (if v5 ≤ 0 then (some ((v3 + 0))) else (some ((v3 + 5000))))))
set_option maxHeartbeats 4000000 in
set_option maxRecDepth 100000 in
theorem m_X8_allFees {l : Launch} {κ : xKt} {wA : Nat → sAcc} {wT : sTxt} {wG : sRng} {wM : sMai} {wO : sOut} {fu : Nat} {uF0 : Int32} {uF1 : xF64} {uF2 : xF64} {uF3 : xF64} {uF4 : xF64} {uF5 : Int32} {uF6 : Int32} {uF7 : Int32} {uF8 : xF32} {uF9 : Int32} {uF10 : Int32} {uF11 : Int64} {uF12 : xF32} {uF13 : Int32} {uF14 : Int32} {uF15 : Int32} {uF16 : xF32} {uF17 : xF32} {uF18 : Int32} {rr : Int64} (hf : f_X8_allFees fu uF1 = some rr) : xMl l κ yX8_allFees cX8_allFees 1 (some .long) (xR 4 0 0) [.ref (xAd κ 245)] (wA, wT, wG, wM, (uF0, uF1, uF2, uF3, uF4, uF5, uF6, uF7, uF8, uF9, uF10, uF11, uF12, uF13, uF14, uF15, uF16, uF17, uF18), wO) (wA, wT, wG, wM, (uF0, uF1, uF2, uF3, uF4, uF5, uF6, uF7, uF8, uF9, uF10, uF11, uF12, uF13, uF14, uF15, uF16, uF17, uF18), wO) rr := by
  unfold f_X8_allFees at hf
  refine xMl_of pn_X8 (Nat.le_of_ble_eq_true rfl) ⟨rfl, rfl⟩ ?_
  intro A p e s m args below meth c ls Q hc hw hl K
  have hc : xC κ A p s m args meth c cX8_allFees RX8 1 (some .long) := hc
  have hx := hc.1.1
  have hb := hc.1.2.1
  have hl : lv_has ls 1 [(0, .ref (xAd κ 245))] := hl
  refine lv_aload_n hx hb dX8_allFees_0 rfl (lv_at hl 0 rfl) ?_
  refine lv_aload_n hx hb dX8_allFees_1 rfl (lv_at hl 0 rfl) ?_
  obtain ⟨v1, h2, hf⟩ := xb1_of hf
  refine x_calllV (As := []) (rest := [.ref (xAd κ 245)]) (σ' := (wA, wT, wG, wM, (uF0, uF1, uF2, uF3, uF4, uF5, uF6, uF7, uF8, uF9, uF10, uF11, uF12, uF13, uF14, uF15, uF16, uF17, uF18), wO)) hc hw hl.1 (m_X8_disputed h2) kX8_112 co_245 rfl rfl ⟨rfl, rfl⟩ ⟨Nat.le_of_ble_eq_true rfl, Nat.le_of_ble_eq_true rfl⟩ ⟨Nat.zero_le _, Nat.zero_le _⟩ (Nat.le_of_ble_eq_true rfl) dX8_allFees_2 (fun H locs hw => ?_)
  obtain ⟨v3, h4, hf⟩ := xb1_of hf
  refine x_calllV (As := [.long v1]) (rest := []) (σ' := (wA, wT, wG, wM, (uF0, uF1, uF2, uF3, uF4, uF5, uF6, uF7, uF8, uF9, uF10, uF11, uF12, uF13, uF14, uF15, uF16, uF17, uF18), wO)) hc hw hl.1 (m_X8_tiersOf h4) kX8_116 co_245 rfl rfl ⟨rfl, rfl⟩ ⟨Nat.le_of_ble_eq_true rfl, Nat.le_of_ble_eq_true rfl⟩ ⟨Nat.zero_le _, Nat.zero_le _⟩ (Nat.le_of_ble_eq_true rfl) dX8_allFees_5 (fun H locs hw => ?_)
  refine lv_aload_n hx hb dX8_allFees_8 rfl (lv_at hl 0 rfl) ?_
  obtain ⟨v5, h6, hf⟩ := xb1_of hf
  refine x_calliV (As := []) (rest := [.long v3]) (σ' := (wA, wT, wG, wM, (uF0, uF1, uF2, uF3, uF4, uF5, uF6, uF7, uF8, uF9, uF10, uF11, uF12, uF13, uF14, uF15, uF16, uF17, uF18), wO)) hc hw hl.1 (m_X8_claims h6) kX8_67 co_245 rfl rfl ⟨rfl, rfl⟩ ⟨Nat.le_of_ble_eq_true rfl, Nat.le_of_ble_eq_true rfl⟩ ⟨Nat.zero_le _, Nat.zero_le _⟩ (Nat.le_of_ble_eq_true rfl) dX8_allFees_9 (fun H locs hw => ?_)
  refine lv_if_le (tgt := 21) hx hb dX8_allFees_12 (by decide) (fun c7 => ?_) (fun c7 => ?_)
  · have hf := xif_t c7 hf
    refine lv_lconst (v := 0) hx hb dX8_allFees_21 (by decide) ?_
    refine lv_ladd hx hb dX8_allFees_22 ?_
    cases hf
    exact K _ _ _ _ dX8_allFees_23 hw
  · have hf := xif_f c7 hf
    refine x_ldc2 hc w_constantLong_RX8_120_5000 dX8_allFees_15 ?_
    refine lv_goto (tgt := 22) hx hb dX8_allFees_18 (by decide) ?_
    refine lv_ladd hx hb dX8_allFees_22 ?_
    cases hf
    exact K _ _ _ _ dX8_allFees_23 hw
def f_X8_lostBy_5 (fu : Nat) (uF1 : xF64) : Nat → (Int32) → (Int64) → (Int32) → Option Int64
  | 0, _, _, _ => none
  | n + 1, x1, x2, x4 => xb1 (f_X8_claims uF1) fun v1 => (if v1 ≤ x4 then (some x2) else (xb1 (f_X8_claimAt x4 0) fun v4 => (xk (xin v4 304) (xk (xin (14 + (uF1 v4.toNatClampNeg).toInt32) 304) (if (uF1 (14 + (uF1 v4.toNatClampNeg).toInt32).toNatClampNeg) = x1.toInt64 then (xb1 (f_X8_claimAt x4 4) fun v12 => (xk (xin v12 304) (f_X8_lostBy_5 fu uF1 n x1 (x2 + (uF1 v12.toNatClampNeg)) (x4 + 1)))) else (xb1 (f_X8_claimAt x4 3) fun v9 => (xk (xin v9 304) (f_X8_lostBy_5 fu uF1 n x1 (x2 + (uF1 v9.toNatClampNeg)) (x4 + 1)))))))))
def f_X8_lostBy (fu : Nat) (x1 : Int32) (uF1 : xF64) : Option Int64 :=
  f_X8_lostBy_5 fu uF1 fu x1 0 0
set_option maxHeartbeats 4000000 in
set_option maxRecDepth 100000 in
theorem l_X8_lostBy_5 {l : Launch} {κ : xKt} {wA : Nat → sAcc} {wT : sTxt} {wG : sRng} {wM : sMai} {wO : sOut} {fu : Nat} {uF0 : Int32} {uF1 : xF64} {uF2 : xF64} {uF3 : xF64} {uF4 : xF64} {uF5 : Int32} {uF6 : Int32} {uF7 : Int32} {uF8 : xF32} {uF9 : Int32} {uF10 : Int32} {uF11 : Int64} {uF12 : xF32} {uF13 : Int32} {uF14 : Int32} {uF15 : Int32} {uF16 : xF32} {uF17 : xF32} {uF18 : Int32} {A : Nat → Prop} {p : Program} {e : Env} {s : State} {m : MethodId} {args : Array Value} {below : List Frame} {meth : Method} {c : Code} {Q : State → Prop} {rr : Int64}
    (hc : xC κ A p s m args meth c cX8_lostBy RX8 6 (some .long))
    (K : ∀ (pc : Nat) (ls : Array Slot) (H : Heap) (locs : List Loc), decode cX8_lostBy pc = .ok (.lreturn, 1) → xW κ A s (wA, wT, wG, wM, (uF0, uF1, uF2, uF3, uF4, uF5, uF6, uF7, uF8, uF9, uF10, uF11, uF12, uF13, uF14, uF15, uF16, uF17, uF18), wO) H locs → W p l e (xR 1 0 0) s m args below meth c H locs 0 0 Q (F0 m pc ls [.long rr])) :
    ∀ (n : Nat) (x1 : Int32) (x2 : Int64) (x4 : Int32) (H : Heap) (locs : List Loc) (ls : Array Slot), f_X8_lostBy_5 fu uF1 n x1 x2 x4 = some rr → xW κ A s (wA, wT, wG, wM, (uF0, uF1, uF2, uF3, uF4, uF5, uF6, uF7, uF8, uF9, uF10, uF11, uF12, uF13, uF14, uF15, uF16, uF17, uF18), wO) H locs → lv_has ls 6 [(0, .ref (xAd κ 245)), (1, .int x1), (2, .long x2), (4, .int x4)] → W p l e (xR 1 0 0) s m args below meth c H locs 0 0 Q (F0 m 5 ls []) := by
  have hx := hc.1.1
  have hb := hc.1.2.1
  intro n
  induction n with
  | zero =>
    intro x1 x2 x4 H locs ls hf
    rw [f_X8_lostBy_5] at hf
    cases hf
  | succ n hi =>
    intro x1 x2 x4 H locs ls hf hw hl
    rw [f_X8_lostBy_5] at hf
    refine lv_iload hx hb dX8_lostBy_5 (lv_at hl 3 rfl) ?_
    refine lv_aload_n hx hb dX8_lostBy_7 rfl (lv_at hl 0 rfl) ?_
    obtain ⟨v1, h2, hf⟩ := xb1_of hf
    refine x_calliV (As := []) (rest := [.int x4]) (σ' := (wA, wT, wG, wM, (uF0, uF1, uF2, uF3, uF4, uF5, uF6, uF7, uF8, uF9, uF10, uF11, uF12, uF13, uF14, uF15, uF16, uF17, uF18), wO)) hc hw hl.1 (m_X8_claims h2) kX8_67 co_245 rfl rfl ⟨rfl, rfl⟩ ⟨Nat.le_of_ble_eq_true rfl, Nat.le_of_ble_eq_true rfl⟩ ⟨Nat.zero_le _, Nat.zero_le _⟩ (Nat.le_of_ble_eq_true rfl) dX8_lostBy_8 (fun H locs hw => ?_)
    refine lv_icmp_ge (tgt := 89) hx hb dX8_lostBy_11 (by decide) (fun c3 => ?_) (fun c3 => ?_)
    · have hf := xif_t c3 hf
      refine lv_lload_n hx hb dX8_lostBy_89 rfl (lv_at hl 2 rfl) ?_
      cases hf
      exact K _ _ _ _ dX8_lostBy_90 hw
    · have hf := xif_f c3 hf
      refine lv_aload_n hx hb dX8_lostBy_14 rfl (lv_at hl 0 rfl) ?_
      refine x_get (v := .ref (xAd κ 246)) hc hw co_245 fX8_7 rfl dX8_lostBy_15 ?_
      refine lv_bipush (v := 14) hx hb dX8_lostBy_18 (by decide) ?_
      refine lv_aload_n hx hb dX8_lostBy_20 rfl (lv_at hl 0 rfl) ?_
      refine x_get (v := .ref (xAd κ 246)) hc hw co_245 fX8_7 rfl dX8_lostBy_21 ?_
      refine lv_aload_n hx hb dX8_lostBy_24 rfl (lv_at hl 0 rfl) ?_
      refine lv_iload hx hb dX8_lostBy_25 (lv_at hl 3 rfl) ?_
      refine lv_iconst (v := 0) hx hb dX8_lostBy_27 (by decide) ?_
      obtain ⟨v4, h5, hf⟩ := xb1_of hf
      refine x_calliV (As := [.int x4, .int 0]) (rest := [.ref (xAd κ 246), .int 14, .ref (xAd κ 246)]) (σ' := (wA, wT, wG, wM, (uF0, uF1, uF2, uF3, uF4, uF5, uF6, uF7, uF8, uF9, uF10, uF11, uF12, uF13, uF14, uF15, uF16, uF17, uF18), wO)) hc hw hl.1 (m_X8_claimAt h5) kX8_90 co_245 rfl rfl ⟨rfl, rfl⟩ ⟨Nat.le_of_ble_eq_true rfl, Nat.le_of_ble_eq_true rfl⟩ ⟨Nat.zero_le _, Nat.zero_le _⟩ (Nat.le_of_ble_eq_true rfl) dX8_lostBy_28 (fun H locs hw => ?_)
      obtain ⟨k6, hf⟩ := xk_of hf
      refine x_lald (n := 304) (f := uF1) hc hw co_246 k6 dX8_lostBy_31 ?_
      refine lv_l2i (v := (uF1 v4.toNatClampNeg).toInt32) hx hb dX8_lostBy_32 rfl ?_
      refine lv_iadd hx hb dX8_lostBy_33 ?_
      obtain ⟨k7, hf⟩ := xk_of hf
      refine x_lald (n := 304) (f := uF1) hc hw co_246 k7 dX8_lostBy_34 ?_
      refine lv_iload_n hx hb dX8_lostBy_35 rfl (lv_at hl 1 rfl) ?_
      refine lv_i2l (v := x1.toInt64) hx hb dX8_lostBy_36 rfl ?_
      refine x_lcmp_ne (tgt := 45) hx hb dX8_lostBy_37 dX8_lostBy_38 (by decide) (fun c8 => ?_) (fun c8 => ?_)
      · have hf := xif_f c8 hf
        refine lv_iconst (v := 0) hx hb dX8_lostBy_45 (by decide) ?_
        refine lv_istore (lv' := [(5, .int 0), (0, .ref (xAd κ 245)), (1, .int x1), (2, .long x2), (4, .int x4)]) hx hb dX8_lostBy_46 hl (by decide) rfl (fun ls hl => ?_)
        refine lv_lload_n hx hb dX8_lostBy_48 rfl (lv_at hl 3 rfl) ?_
        refine lv_iload hx hb dX8_lostBy_49 (lv_at hl 0 rfl) ?_
        refine lv_if_eq (tgt := 69) hx hb dX8_lostBy_51 (by decide) (fun _ => ?_) (fun q => absurd q (by decide))
        refine lv_aload_n hx hb dX8_lostBy_69 rfl (lv_at hl 1 rfl) ?_
        refine x_get (v := .ref (xAd κ 246)) hc hw co_245 fX8_7 rfl dX8_lostBy_70 ?_
        refine lv_aload_n hx hb dX8_lostBy_73 rfl (lv_at hl 1 rfl) ?_
        refine lv_iload hx hb dX8_lostBy_74 (lv_at hl 4 rfl) ?_
        refine lv_iconst (v := 3) hx hb dX8_lostBy_76 (by decide) ?_
        obtain ⟨v9, h10, hf⟩ := xb1_of hf
        refine x_calliV (As := [.int x4, .int 3]) (rest := [.ref (xAd κ 246), .long x2]) (σ' := (wA, wT, wG, wM, (uF0, uF1, uF2, uF3, uF4, uF5, uF6, uF7, uF8, uF9, uF10, uF11, uF12, uF13, uF14, uF15, uF16, uF17, uF18), wO)) hc hw hl.1 (m_X8_claimAt h10) kX8_90 co_245 rfl rfl ⟨rfl, rfl⟩ ⟨Nat.le_of_ble_eq_true rfl, Nat.le_of_ble_eq_true rfl⟩ ⟨Nat.zero_le _, Nat.zero_le _⟩ (Nat.le_of_ble_eq_true rfl) dX8_lostBy_77 (fun H locs hw => ?_)
        obtain ⟨k11, hf⟩ := xk_of hf
        refine x_lald (n := 304) (f := uF1) hc hw co_246 k11 dX8_lostBy_80 ?_
        refine lv_ladd hx hb dX8_lostBy_81 ?_
        refine lv_lstore_n (lv' := [(2, .long (x2 + (uF1 v9.toNatClampNeg))), (5, .int 0), (0, .ref (xAd κ 245)), (1, .int x1), (4, .int x4)]) hx hb dX8_lostBy_82 rfl hl (by decide) rfl (fun ls hl => ?_)
        refine lv_iinc (v := (x4 + 1)) (lv' := [(4, .int (x4 + 1)), (2, .long (x2 + (uF1 v9.toNatClampNeg))), (5, .int 0), (0, .ref (xAd κ 245)), (1, .int x1)]) hx hb dX8_lostBy_83 hl (k := 4) rfl rfl (by decide) rfl (fun ls hl => ?_)
        refine lv_goto (tgt := 5) hx hb dX8_lostBy_86 (by decide) ?_
        exact hi _ _ _ _ _ _ hf hw (lv_sub hl [3, 4, 1, 0] rfl)
      · have hf := xif_t c8 hf
        refine lv_iconst (v := 1) hx hb dX8_lostBy_41 (by decide) ?_
        refine lv_goto (tgt := 46) hx hb dX8_lostBy_42 (by decide) ?_
        refine lv_istore (lv' := [(5, .int 1), (0, .ref (xAd κ 245)), (1, .int x1), (2, .long x2), (4, .int x4)]) hx hb dX8_lostBy_46 hl (by decide) rfl (fun ls hl => ?_)
        refine lv_lload_n hx hb dX8_lostBy_48 rfl (lv_at hl 3 rfl) ?_
        refine lv_iload hx hb dX8_lostBy_49 (lv_at hl 0 rfl) ?_
        refine lv_if_eq (tgt := 69) hx hb dX8_lostBy_51 (by decide) (fun q => absurd q (by decide)) (fun _ => ?_)
        refine lv_aload_n hx hb dX8_lostBy_54 rfl (lv_at hl 1 rfl) ?_
        refine x_get (v := .ref (xAd κ 246)) hc hw co_245 fX8_7 rfl dX8_lostBy_55 ?_
        refine lv_aload_n hx hb dX8_lostBy_58 rfl (lv_at hl 1 rfl) ?_
        refine lv_iload hx hb dX8_lostBy_59 (lv_at hl 4 rfl) ?_
        refine lv_iconst (v := 4) hx hb dX8_lostBy_61 (by decide) ?_
        obtain ⟨v12, h13, hf⟩ := xb1_of hf
        refine x_calliV (As := [.int x4, .int 4]) (rest := [.ref (xAd κ 246), .long x2]) (σ' := (wA, wT, wG, wM, (uF0, uF1, uF2, uF3, uF4, uF5, uF6, uF7, uF8, uF9, uF10, uF11, uF12, uF13, uF14, uF15, uF16, uF17, uF18), wO)) hc hw hl.1 (m_X8_claimAt h13) kX8_90 co_245 rfl rfl ⟨rfl, rfl⟩ ⟨Nat.le_of_ble_eq_true rfl, Nat.le_of_ble_eq_true rfl⟩ ⟨Nat.zero_le _, Nat.zero_le _⟩ (Nat.le_of_ble_eq_true rfl) dX8_lostBy_62 (fun H locs hw => ?_)
        obtain ⟨k14, hf⟩ := xk_of hf
        refine x_lald (n := 304) (f := uF1) hc hw co_246 k14 dX8_lostBy_65 ?_
        refine lv_goto (tgt := 81) hx hb dX8_lostBy_66 (by decide) ?_
        refine lv_ladd hx hb dX8_lostBy_81 ?_
        refine lv_lstore_n (lv' := [(2, .long (x2 + (uF1 v12.toNatClampNeg))), (5, .int 1), (0, .ref (xAd κ 245)), (1, .int x1), (4, .int x4)]) hx hb dX8_lostBy_82 rfl hl (by decide) rfl (fun ls hl => ?_)
        refine lv_iinc (v := (x4 + 1)) (lv' := [(4, .int (x4 + 1)), (2, .long (x2 + (uF1 v12.toNatClampNeg))), (5, .int 1), (0, .ref (xAd κ 245)), (1, .int x1)]) hx hb dX8_lostBy_83 hl (k := 4) rfl rfl (by decide) rfl (fun ls hl => ?_)
        refine lv_goto (tgt := 5) hx hb dX8_lostBy_86 (by decide) ?_
        exact hi _ _ _ _ _ _ hf hw (lv_sub hl [3, 4, 1, 0] rfl)
set_option maxHeartbeats 4000000 in
set_option maxRecDepth 100000 in
theorem m_X8_lostBy {l : Launch} {κ : xKt} {wA : Nat → sAcc} {wT : sTxt} {wG : sRng} {wM : sMai} {wO : sOut} {fu : Nat} {x1 : Int32} {uF0 : Int32} {uF1 : xF64} {uF2 : xF64} {uF3 : xF64} {uF4 : xF64} {uF5 : Int32} {uF6 : Int32} {uF7 : Int32} {uF8 : xF32} {uF9 : Int32} {uF10 : Int32} {uF11 : Int64} {uF12 : xF32} {uF13 : Int32} {uF14 : Int32} {uF15 : Int32} {uF16 : xF32} {uF17 : xF32} {uF18 : Int32} {rr : Int64} (hf : f_X8_lostBy fu x1 uF1 = some rr) : xMl l κ yX8_lostBy cX8_lostBy 6 (some .long) (xR 1 0 0) [.ref (xAd κ 245), .int x1] (wA, wT, wG, wM, (uF0, uF1, uF2, uF3, uF4, uF5, uF6, uF7, uF8, uF9, uF10, uF11, uF12, uF13, uF14, uF15, uF16, uF17, uF18), wO) (wA, wT, wG, wM, (uF0, uF1, uF2, uF3, uF4, uF5, uF6, uF7, uF8, uF9, uF10, uF11, uF12, uF13, uF14, uF15, uF16, uF17, uF18), wO) rr := by
  unfold f_X8_lostBy at hf
  refine xMl_of pn_X8 (Nat.le_of_ble_eq_true rfl) ⟨rfl, rfl⟩ ?_
  intro A p e s m args below meth c ls Q hc hw hl K
  have hc : xC κ A p s m args meth c cX8_lostBy RX8 6 (some .long) := hc
  have hx := hc.1.1
  have hb := hc.1.2.1
  have hl : lv_has ls 6 [(0, .ref (xAd κ 245)), (1, .int x1)] := hl
  refine lv_lconst (v := 0) hx hb dX8_lostBy_0 (by decide) ?_
  refine lv_lstore_n (lv' := [(2, .long 0), (0, .ref (xAd κ 245)), (1, .int x1)]) hx hb dX8_lostBy_1 rfl hl (by decide) rfl (fun ls hl => ?_)
  refine lv_iconst (v := 0) hx hb dX8_lostBy_2 (by decide) ?_
  refine lv_istore (lv' := [(4, .int 0), (2, .long 0), (0, .ref (xAd κ 245)), (1, .int x1)]) hx hb dX8_lostBy_3 hl (by decide) rfl (fun ls hl => ?_)
  exact l_X8_lostBy_5 hc K fu _ _ _ _ _ _ hf hw (lv_sub hl [2, 3, 1, 0] rfl)
def f_X8_shareOfSide (fu : Nat) (x1 : Int32) (uF1 : xF64) : Option Int64 :=
  xb1 (f_X8_allFees fu uF1) fun v1 => (xb1 (f_X8_lostBy fu 0 uF1) fun v3 => (xb1 (f_X8_lostBy fu 1 uF1) fun v5 => (if (v3 + v5) = 0 then (if x1 = 1 then (some ((v1 / 2))) else (some ((v1 - (v1 / 2))))) else (xb1 (f_X8_lostBy fu 1 uF1) fun v8 => (xk (xnzl (v3 + v5)) (if x1 = 1 then (some (((v1 * v8) / (v3 + v5)))) else (some ((v1 - ((v1 * v8) / (v3 + v5)))))))))))
set_option maxHeartbeats 4000000 in
set_option maxRecDepth 100000 in
theorem m_X8_shareOfSide {l : Launch} {κ : xKt} {wA : Nat → sAcc} {wT : sTxt} {wG : sRng} {wM : sMai} {wO : sOut} {fu : Nat} {x1 : Int32} {uF0 : Int32} {uF1 : xF64} {uF2 : xF64} {uF3 : xF64} {uF4 : xF64} {uF5 : Int32} {uF6 : Int32} {uF7 : Int32} {uF8 : xF32} {uF9 : Int32} {uF10 : Int32} {uF11 : Int64} {uF12 : xF32} {uF13 : Int32} {uF14 : Int32} {uF15 : Int32} {uF16 : xF32} {uF17 : xF32} {uF18 : Int32} {rr : Int64} (hf : f_X8_shareOfSide fu x1 uF1 = some rr) : xMl l κ yX8_shareOfSide cX8_shareOfSide 8 (some .long) (xR 5 0 0) [.ref (xAd κ 245), .int x1] (wA, wT, wG, wM, (uF0, uF1, uF2, uF3, uF4, uF5, uF6, uF7, uF8, uF9, uF10, uF11, uF12, uF13, uF14, uF15, uF16, uF17, uF18), wO) (wA, wT, wG, wM, (uF0, uF1, uF2, uF3, uF4, uF5, uF6, uF7, uF8, uF9, uF10, uF11, uF12, uF13, uF14, uF15, uF16, uF17, uF18), wO) rr := by
  unfold f_X8_shareOfSide at hf
  refine xMl_of pn_X8 (Nat.le_of_ble_eq_true rfl) ⟨rfl, rfl⟩ ?_
  intro A p e s m args below meth c ls Q hc hw hl K
  have hc : xC κ A p s m args meth c cX8_shareOfSide RX8 8 (some .long) := hc
  have hx := hc.1.1
  have hb := hc.1.2.1
  have hl : lv_has ls 8 [(0, .ref (xAd κ 245)), (1, .int x1)] := hl
  refine lv_aload_n hx hb dX8_shareOfSide_0 rfl (lv_at hl 0 rfl) ?_
  obtain ⟨v1, h2, hf⟩ := xb1_of hf
  refine x_calllV (As := []) (rest := []) (σ' := (wA, wT, wG, wM, (uF0, uF1, uF2, uF3, uF4, uF5, uF6, uF7, uF8, uF9, uF10, uF11, uF12, uF13, uF14, uF15, uF16, uF17, uF18), wO)) hc hw hl.1 (m_X8_allFees h2) kX8_122 co_245 rfl rfl ⟨rfl, rfl⟩ ⟨Nat.le_of_ble_eq_true rfl, Nat.le_of_ble_eq_true rfl⟩ ⟨Nat.zero_le _, Nat.zero_le _⟩ (Nat.le_of_ble_eq_true rfl) dX8_shareOfSide_1 (fun H locs hw => ?_)
  refine lv_lstore_n (lv' := [(2, .long v1), (0, .ref (xAd κ 245)), (1, .int x1)]) hx hb dX8_shareOfSide_4 rfl hl (by decide) rfl (fun ls hl => ?_)
  refine lv_aload_n hx hb dX8_shareOfSide_5 rfl (lv_at hl 1 rfl) ?_
  refine lv_iconst (v := 0) hx hb dX8_shareOfSide_6 (by decide) ?_
  obtain ⟨v3, h4, hf⟩ := xb1_of hf
  refine x_calllV (As := [.int 0]) (rest := []) (σ' := (wA, wT, wG, wM, (uF0, uF1, uF2, uF3, uF4, uF5, uF6, uF7, uF8, uF9, uF10, uF11, uF12, uF13, uF14, uF15, uF16, uF17, uF18), wO)) hc hw hl.1 (m_X8_lostBy h4) kX8_125 co_245 rfl rfl ⟨rfl, rfl⟩ ⟨Nat.le_of_ble_eq_true rfl, Nat.le_of_ble_eq_true rfl⟩ ⟨Nat.zero_le _, Nat.zero_le _⟩ (Nat.le_of_ble_eq_true rfl) dX8_shareOfSide_7 (fun H locs hw => ?_)
  refine lv_aload_n hx hb dX8_shareOfSide_10 rfl (lv_at hl 1 rfl) ?_
  refine lv_iconst (v := 1) hx hb dX8_shareOfSide_11 (by decide) ?_
  obtain ⟨v5, h6, hf⟩ := xb1_of hf
  refine x_calllV (As := [.int 1]) (rest := [.long v3]) (σ' := (wA, wT, wG, wM, (uF0, uF1, uF2, uF3, uF4, uF5, uF6, uF7, uF8, uF9, uF10, uF11, uF12, uF13, uF14, uF15, uF16, uF17, uF18), wO)) hc hw hl.1 (m_X8_lostBy h6) kX8_125 co_245 rfl rfl ⟨rfl, rfl⟩ ⟨Nat.le_of_ble_eq_true rfl, Nat.le_of_ble_eq_true rfl⟩ ⟨Nat.zero_le _, Nat.zero_le _⟩ (Nat.le_of_ble_eq_true rfl) dX8_shareOfSide_12 (fun H locs hw => ?_)
  refine lv_ladd hx hb dX8_shareOfSide_15 ?_
  refine lv_lstore (lv' := [(4, .long (v3 + v5)), (2, .long v1), (0, .ref (xAd κ 245)), (1, .int x1)]) hx hb dX8_shareOfSide_16 hl (by decide) rfl (fun ls hl => ?_)
  refine lv_lload hx hb dX8_shareOfSide_18 (lv_at hl 0 rfl) ?_
  refine lv_lconst (v := 0) hx hb dX8_shareOfSide_20 (by decide) ?_
  refine x_lcmp_ne (tgt := 33) hx hb dX8_shareOfSide_21 dX8_shareOfSide_22 (by decide) (fun c7 => ?_) (fun c7 => ?_)
  · have hf := xif_f c7 hf
    refine lv_lload_n hx hb dX8_shareOfSide_33 rfl (lv_at hl 1 rfl) ?_
    refine lv_aload_n hx hb dX8_shareOfSide_34 rfl (lv_at hl 2 rfl) ?_
    refine lv_iconst (v := 1) hx hb dX8_shareOfSide_35 (by decide) ?_
    obtain ⟨v8, h9, hf⟩ := xb1_of hf
    refine x_calllV (As := [.int 1]) (rest := [.long v1]) (σ' := (wA, wT, wG, wM, (uF0, uF1, uF2, uF3, uF4, uF5, uF6, uF7, uF8, uF9, uF10, uF11, uF12, uF13, uF14, uF15, uF16, uF17, uF18), wO)) hc hw hl.1 (m_X8_lostBy h9) kX8_125 co_245 rfl rfl ⟨rfl, rfl⟩ ⟨Nat.le_of_ble_eq_true rfl, Nat.le_of_ble_eq_true rfl⟩ ⟨Nat.zero_le _, Nat.zero_le _⟩ (Nat.le_of_ble_eq_true rfl) dX8_shareOfSide_36 (fun H locs hw => ?_)
    refine lv_lmul hx hb dX8_shareOfSide_39 ?_
    refine lv_lload hx hb dX8_shareOfSide_40 (lv_at hl 0 rfl) ?_
    obtain ⟨k10, hf⟩ := xk_of hf
    refine lv_ldiv hx hb dX8_shareOfSide_42 (of_decide_eq_true k10) ?_
    refine lv_lstore (lv' := [(6, .long ((v1 * v8) / (v3 + v5))), (4, .long (v3 + v5)), (2, .long v1), (0, .ref (xAd κ 245)), (1, .int x1)]) hx hb dX8_shareOfSide_43 hl (by decide) rfl (fun ls hl => ?_)
    refine lv_iload_n hx hb dX8_shareOfSide_45 rfl (lv_at hl 4 rfl) ?_
    refine lv_iconst (v := 1) hx hb dX8_shareOfSide_46 (by decide) ?_
    refine lv_icmp_ne (tgt := 55) hx hb dX8_shareOfSide_47 (by decide) (fun c11 => ?_) (fun c11 => ?_)
    · have hf := xif_f c11 hf
      refine lv_lload_n hx hb dX8_shareOfSide_55 rfl (lv_at hl 2 rfl) ?_
      refine lv_lload hx hb dX8_shareOfSide_56 (lv_at hl 0 rfl) ?_
      refine lv_lsub hx hb dX8_shareOfSide_58 ?_
      cases hf
      exact K _ _ _ _ dX8_shareOfSide_59 hw
    · have hf := xif_t c11 hf
      refine lv_lload hx hb dX8_shareOfSide_50 (lv_at hl 0 rfl) ?_
      refine lv_goto (tgt := 59) hx hb dX8_shareOfSide_52 (by decide) ?_
      cases hf
      exact K _ _ _ _ dX8_shareOfSide_59 hw
  · have hf := xif_t c7 hf
    refine lv_lload_n hx hb dX8_shareOfSide_25 rfl (lv_at hl 1 rfl) ?_
    refine x_ldc2 hc w_constantLong_RX8_129_2 dX8_shareOfSide_26 ?_
    refine lv_ldiv hx hb dX8_shareOfSide_29 (by decide) ?_
    refine lv_goto (tgt := 43) hx hb dX8_shareOfSide_30 (by decide) ?_
    refine lv_lstore (lv' := [(6, .long (v1 / 2)), (4, .long (v3 + v5)), (2, .long v1), (0, .ref (xAd κ 245)), (1, .int x1)]) hx hb dX8_shareOfSide_43 hl (by decide) rfl (fun ls hl => ?_)
    refine lv_iload_n hx hb dX8_shareOfSide_45 rfl (lv_at hl 4 rfl) ?_
    refine lv_iconst (v := 1) hx hb dX8_shareOfSide_46 (by decide) ?_
    refine lv_icmp_ne (tgt := 55) hx hb dX8_shareOfSide_47 (by decide) (fun c12 => ?_) (fun c12 => ?_)
    · have hf := xif_f c12 hf
      refine lv_lload_n hx hb dX8_shareOfSide_55 rfl (lv_at hl 2 rfl) ?_
      refine lv_lload hx hb dX8_shareOfSide_56 (lv_at hl 0 rfl) ?_
      refine lv_lsub hx hb dX8_shareOfSide_58 ?_
      cases hf
      exact K _ _ _ _ dX8_shareOfSide_59 hw
    · have hf := xif_t c12 hf
      refine lv_lload hx hb dX8_shareOfSide_50 (lv_at hl 0 rfl) ?_
      refine lv_goto (tgt := 59) hx hb dX8_shareOfSide_52 (by decide) ?_
      cases hf
      exact K _ _ _ _ dX8_shareOfSide_59 hw
def f_X8_weights_5 (fu : Nat) (uF1 : xF64) : Nat → (Int32) → (Int64) → (Int32) → Option Int64
  | 0, _, _, _ => none
  | n + 1, x1, x2, x4 => xb1 (f_X8_parties uF1) fun v1 => (if v1 ≤ x4 then (some x2) else (xk (xin (14 + x4) 304) (if (uF1 (14 + x4).toNatClampNeg) = x1.toInt64 then (xk (xin (20 + x4) 304) (f_X8_weights_5 fu uF1 n x1 (x2 + (uF1 (20 + x4).toNatClampNeg)) (x4 + 1))) else (f_X8_weights_5 fu uF1 n x1 (x2 + 0) (x4 + 1)))))
def f_X8_weights (fu : Nat) (x1 : Int32) (uF1 : xF64) : Option Int64 :=
  f_X8_weights_5 fu uF1 fu x1 0 0
set_option maxHeartbeats 4000000 in
set_option maxRecDepth 100000 in
theorem l_X8_weights_5 {l : Launch} {κ : xKt} {wA : Nat → sAcc} {wT : sTxt} {wG : sRng} {wM : sMai} {wO : sOut} {fu : Nat} {uF0 : Int32} {uF1 : xF64} {uF2 : xF64} {uF3 : xF64} {uF4 : xF64} {uF5 : Int32} {uF6 : Int32} {uF7 : Int32} {uF8 : xF32} {uF9 : Int32} {uF10 : Int32} {uF11 : Int64} {uF12 : xF32} {uF13 : Int32} {uF14 : Int32} {uF15 : Int32} {uF16 : xF32} {uF17 : xF32} {uF18 : Int32} {A : Nat → Prop} {p : Program} {e : Env} {s : State} {m : MethodId} {args : Array Value} {below : List Frame} {meth : Method} {c : Code} {Q : State → Prop} {rr : Int64}
    (hc : xC κ A p s m args meth c cX8_weights RX8 5 (some .long))
    (K : ∀ (pc : Nat) (ls : Array Slot) (H : Heap) (locs : List Loc), decode cX8_weights pc = .ok (.lreturn, 1) → xW κ A s (wA, wT, wG, wM, (uF0, uF1, uF2, uF3, uF4, uF5, uF6, uF7, uF8, uF9, uF10, uF11, uF12, uF13, uF14, uF15, uF16, uF17, uF18), wO) H locs → W p l e (xR 1 0 0) s m args below meth c H locs 0 0 Q (F0 m pc ls [.long rr])) :
    ∀ (n : Nat) (x1 : Int32) (x2 : Int64) (x4 : Int32) (H : Heap) (locs : List Loc) (ls : Array Slot), f_X8_weights_5 fu uF1 n x1 x2 x4 = some rr → xW κ A s (wA, wT, wG, wM, (uF0, uF1, uF2, uF3, uF4, uF5, uF6, uF7, uF8, uF9, uF10, uF11, uF12, uF13, uF14, uF15, uF16, uF17, uF18), wO) H locs → lv_has ls 5 [(0, .ref (xAd κ 245)), (1, .int x1), (2, .long x2), (4, .int x4)] → W p l e (xR 1 0 0) s m args below meth c H locs 0 0 Q (F0 m 5 ls []) := by
  have hx := hc.1.1
  have hb := hc.1.2.1
  intro n
  induction n with
  | zero =>
    intro x1 x2 x4 H locs ls hf
    rw [f_X8_weights_5] at hf
    cases hf
  | succ n hi =>
    intro x1 x2 x4 H locs ls hf hw hl
    rw [f_X8_weights_5] at hf
    refine lv_iload hx hb dX8_weights_5 (lv_at hl 3 rfl) ?_
    refine lv_aload_n hx hb dX8_weights_7 rfl (lv_at hl 0 rfl) ?_
    obtain ⟨v1, h2, hf⟩ := xb1_of hf
    refine x_calliV (As := []) (rest := [.int x4]) (σ' := (wA, wT, wG, wM, (uF0, uF1, uF2, uF3, uF4, uF5, uF6, uF7, uF8, uF9, uF10, uF11, uF12, uF13, uF14, uF15, uF16, uF17, uF18), wO)) hc hw hl.1 (m_X8_parties h2) kX8_59 co_245 rfl rfl ⟨rfl, rfl⟩ ⟨Nat.le_of_ble_eq_true rfl, Nat.le_of_ble_eq_true rfl⟩ ⟨Nat.zero_le _, Nat.zero_le _⟩ (Nat.le_of_ble_eq_true rfl) dX8_weights_8 (fun H locs hw => ?_)
    refine lv_icmp_ge (tgt := 53) hx hb dX8_weights_11 (by decide) (fun c3 => ?_) (fun c3 => ?_)
    · have hf := xif_t c3 hf
      refine lv_lload_n hx hb dX8_weights_53 rfl (lv_at hl 2 rfl) ?_
      cases hf
      exact K _ _ _ _ dX8_weights_54 hw
    · have hf := xif_f c3 hf
      refine lv_lload_n hx hb dX8_weights_14 rfl (lv_at hl 2 rfl) ?_
      refine lv_aload_n hx hb dX8_weights_15 rfl (lv_at hl 0 rfl) ?_
      refine x_get (v := .ref (xAd κ 246)) hc hw co_245 fX8_7 rfl dX8_weights_16 ?_
      refine lv_bipush (v := 14) hx hb dX8_weights_19 (by decide) ?_
      refine lv_iload hx hb dX8_weights_21 (lv_at hl 3 rfl) ?_
      refine lv_iadd hx hb dX8_weights_23 ?_
      obtain ⟨k4, hf⟩ := xk_of hf
      refine x_lald (n := 304) (f := uF1) hc hw co_246 k4 dX8_weights_24 ?_
      refine lv_iload_n hx hb dX8_weights_25 rfl (lv_at hl 1 rfl) ?_
      refine lv_i2l (v := x1.toInt64) hx hb dX8_weights_26 rfl ?_
      refine x_lcmp_ne (tgt := 44) hx hb dX8_weights_27 dX8_weights_28 (by decide) (fun c5 => ?_) (fun c5 => ?_)
      · have hf := xif_f c5 hf
        refine lv_lconst (v := 0) hx hb dX8_weights_44 (by decide) ?_
        refine lv_ladd hx hb dX8_weights_45 ?_
        refine lv_lstore_n (lv' := [(2, .long (x2 + 0)), (0, .ref (xAd κ 245)), (1, .int x1), (4, .int x4)]) hx hb dX8_weights_46 rfl hl (by decide) rfl (fun ls hl => ?_)
        refine lv_iinc (v := (x4 + 1)) (lv' := [(4, .int (x4 + 1)), (2, .long (x2 + 0)), (0, .ref (xAd κ 245)), (1, .int x1)]) hx hb dX8_weights_47 hl (k := 3) rfl rfl (by decide) rfl (fun ls hl => ?_)
        refine lv_goto (tgt := 5) hx hb dX8_weights_50 (by decide) ?_
        exact hi _ _ _ _ _ _ hf hw (lv_sub hl [2, 3, 1, 0] rfl)
      · have hf := xif_t c5 hf
        refine lv_aload_n hx hb dX8_weights_31 rfl (lv_at hl 0 rfl) ?_
        refine x_get (v := .ref (xAd κ 246)) hc hw co_245 fX8_7 rfl dX8_weights_32 ?_
        refine lv_bipush (v := 20) hx hb dX8_weights_35 (by decide) ?_
        refine lv_iload hx hb dX8_weights_37 (lv_at hl 3 rfl) ?_
        refine lv_iadd hx hb dX8_weights_39 ?_
        obtain ⟨k6, hf⟩ := xk_of hf
        refine x_lald (n := 304) (f := uF1) hc hw co_246 k6 dX8_weights_40 ?_
        refine lv_goto (tgt := 45) hx hb dX8_weights_41 (by decide) ?_
        refine lv_ladd hx hb dX8_weights_45 ?_
        refine lv_lstore_n (lv' := [(2, .long (x2 + (uF1 (20 + x4).toNatClampNeg))), (0, .ref (xAd κ 245)), (1, .int x1), (4, .int x4)]) hx hb dX8_weights_46 rfl hl (by decide) rfl (fun ls hl => ?_)
        refine lv_iinc (v := (x4 + 1)) (lv' := [(4, .int (x4 + 1)), (2, .long (x2 + (uF1 (20 + x4).toNatClampNeg))), (0, .ref (xAd κ 245)), (1, .int x1)]) hx hb dX8_weights_47 hl (k := 3) rfl rfl (by decide) rfl (fun ls hl => ?_)
        refine lv_goto (tgt := 5) hx hb dX8_weights_50 (by decide) ?_
        exact hi _ _ _ _ _ _ hf hw (lv_sub hl [2, 3, 1, 0] rfl)
set_option maxHeartbeats 4000000 in
set_option maxRecDepth 100000 in
theorem m_X8_weights {l : Launch} {κ : xKt} {wA : Nat → sAcc} {wT : sTxt} {wG : sRng} {wM : sMai} {wO : sOut} {fu : Nat} {x1 : Int32} {uF0 : Int32} {uF1 : xF64} {uF2 : xF64} {uF3 : xF64} {uF4 : xF64} {uF5 : Int32} {uF6 : Int32} {uF7 : Int32} {uF8 : xF32} {uF9 : Int32} {uF10 : Int32} {uF11 : Int64} {uF12 : xF32} {uF13 : Int32} {uF14 : Int32} {uF15 : Int32} {uF16 : xF32} {uF17 : xF32} {uF18 : Int32} {rr : Int64} (hf : f_X8_weights fu x1 uF1 = some rr) : xMl l κ yX8_weights cX8_weights 5 (some .long) (xR 1 0 0) [.ref (xAd κ 245), .int x1] (wA, wT, wG, wM, (uF0, uF1, uF2, uF3, uF4, uF5, uF6, uF7, uF8, uF9, uF10, uF11, uF12, uF13, uF14, uF15, uF16, uF17, uF18), wO) (wA, wT, wG, wM, (uF0, uF1, uF2, uF3, uF4, uF5, uF6, uF7, uF8, uF9, uF10, uF11, uF12, uF13, uF14, uF15, uF16, uF17, uF18), wO) rr := by
  unfold f_X8_weights at hf
  refine xMl_of pn_X8 (Nat.le_of_ble_eq_true rfl) ⟨rfl, rfl⟩ ?_
  intro A p e s m args below meth c ls Q hc hw hl K
  have hc : xC κ A p s m args meth c cX8_weights RX8 5 (some .long) := hc
  have hx := hc.1.1
  have hb := hc.1.2.1
  have hl : lv_has ls 5 [(0, .ref (xAd κ 245)), (1, .int x1)] := hl
  refine lv_lconst (v := 0) hx hb dX8_weights_0 (by decide) ?_
  refine lv_lstore_n (lv' := [(2, .long 0), (0, .ref (xAd κ 245)), (1, .int x1)]) hx hb dX8_weights_1 rfl hl (by decide) rfl (fun ls hl => ?_)
  refine lv_iconst (v := 0) hx hb dX8_weights_2 (by decide) ?_
  refine lv_istore (lv' := [(4, .int 0), (2, .long 0), (0, .ref (xAd κ 245)), (1, .int x1)]) hx hb dX8_weights_3 hl (by decide) rfl (fun ls hl => ?_)
  exact l_X8_weights_5 hc K fu _ _ _ _ _ _ hf hw (lv_sub hl [2, 3, 1, 0] rfl)
def f_X8_split_29 (fu : Nat) (uF1 : xF64) : Nat → (Int64) → (Int32) → (Int32) → (Int64) → (Int64) → (Int32) → (Int32) → Option Int64
  | 0, _, _, _, _, _, _, _ => none
  | n + 1, x1, x3, x4, x5, x7, x9, x10 => xb1 (f_X8_parties uF1) fun v4 => (if v4 ≤ x10 then (xk (xin (20 + x3) 304) (xk (xnzl x5) (if x7 ≤ x9.toInt64 then (some ((((x1 * (uF1 (20 + x3).toNatClampNeg)) / x5) + 0))) else (some ((((x1 * (uF1 (20 + x3).toNatClampNeg)) / x5) + 1)))))) else (xk (xin (14 + x10) 304) (if (uF1 (14 + x10).toNatClampNeg) = x4.toInt64 then (xk (xin (20 + x10) 304) (xk (xnzl x5) (if x3 ≤ x10 then (f_X8_split_29 fu uF1 n x1 x3 x4 x5 (x7 - ((x1 * (uF1 (20 + x10).toNatClampNeg)) / x5)) (x9 + 0) (x10 + 1)) else (f_X8_split_29 fu uF1 n x1 x3 x4 x5 (x7 - ((x1 * (uF1 (20 + x10).toNatClampNeg)) / x5)) (x9 + 1) (x10 + 1))))) else (f_X8_split_29 fu uF1 n x1 x3 x4 x5 x7 x9 (x10 + 1)))))
def f_X8_split (fu : Nat) (x1 : Int64) (x3 : Int32) (uF1 : xF64) : Option Int64 :=
  xk (xin (14 + x3) 304) (xb1 (f_X8_weights fu (uF1 (14 + x3).toNatClampNeg).toInt32 uF1) fun v2 => (f_X8_split_29 fu uF1 fu x1 x3 (uF1 (14 + x3).toNatClampNeg).toInt32 v2 x1 0 0))
set_option maxHeartbeats 4000000 in
set_option maxRecDepth 100000 in
theorem l_X8_split_29 {l : Launch} {κ : xKt} {wA : Nat → sAcc} {wT : sTxt} {wG : sRng} {wM : sMai} {wO : sOut} {fu : Nat} {uF0 : Int32} {uF1 : xF64} {uF2 : xF64} {uF3 : xF64} {uF4 : xF64} {uF5 : Int32} {uF6 : Int32} {uF7 : Int32} {uF8 : xF32} {uF9 : Int32} {uF10 : Int32} {uF11 : Int64} {uF12 : xF32} {uF13 : Int32} {uF14 : Int32} {uF15 : Int32} {uF16 : xF32} {uF17 : xF32} {uF18 : Int32} {A : Nat → Prop} {p : Program} {e : Env} {s : State} {m : MethodId} {args : Array Value} {below : List Frame} {meth : Method} {c : Code} {Q : State → Prop} {rr : Int64}
    (hc : xC κ A p s m args meth c cX8_split RX8 11 (some .long))
    (K : ∀ (pc : Nat) (ls : Array Slot) (H : Heap) (locs : List Loc), decode cX8_split pc = .ok (.lreturn, 1) → xW κ A s (wA, wT, wG, wM, (uF0, uF1, uF2, uF3, uF4, uF5, uF6, uF7, uF8, uF9, uF10, uF11, uF12, uF13, uF14, uF15, uF16, uF17, uF18), wO) H locs → W p l e (xR 2 0 0) s m args below meth c H locs 0 0 Q (F0 m pc ls [.long rr])) :
    ∀ (n : Nat) (x1 : Int64) (x3 : Int32) (x4 : Int32) (x5 : Int64) (x7 : Int64) (x9 : Int32) (x10 : Int32) (H : Heap) (locs : List Loc) (ls : Array Slot), f_X8_split_29 fu uF1 n x1 x3 x4 x5 x7 x9 x10 = some rr → xW κ A s (wA, wT, wG, wM, (uF0, uF1, uF2, uF3, uF4, uF5, uF6, uF7, uF8, uF9, uF10, uF11, uF12, uF13, uF14, uF15, uF16, uF17, uF18), wO) H locs → lv_has ls 11 [(0, .ref (xAd κ 245)), (1, .long x1), (3, .int x3), (4, .int x4), (5, .long x5), (7, .long x7), (9, .int x9), (10, .int x10)] → W p l e (xR 2 0 0) s m args below meth c H locs 0 0 Q (F0 m 29 ls []) := by
  have hx := hc.1.1
  have hb := hc.1.2.1
  intro n
  induction n with
  | zero =>
    intro x1 x3 x4 x5 x7 x9 x10 H locs ls hf
    rw [f_X8_split_29] at hf
    cases hf
  | succ n hi =>
    intro x1 x3 x4 x5 x7 x9 x10 H locs ls hf hw hl
    rw [f_X8_split_29] at hf
    refine lv_iload hx hb dX8_split_29 (lv_at hl 7 rfl) ?_
    refine lv_aload_n hx hb dX8_split_31 rfl (lv_at hl 0 rfl) ?_
    obtain ⟨v4, h5, hf⟩ := xb1_of hf
    refine x_calliV (As := []) (rest := [.int x10]) (σ' := (wA, wT, wG, wM, (uF0, uF1, uF2, uF3, uF4, uF5, uF6, uF7, uF8, uF9, uF10, uF11, uF12, uF13, uF14, uF15, uF16, uF17, uF18), wO)) hc hw hl.1 (m_X8_parties h5) kX8_59 co_245 rfl rfl ⟨rfl, rfl⟩ ⟨Nat.le_of_ble_eq_true rfl, Nat.le_of_ble_eq_true rfl⟩ ⟨Nat.zero_le _, Nat.zero_le _⟩ (Nat.le_of_ble_eq_true rfl) dX8_split_32 (fun H locs hw => ?_)
    refine lv_icmp_ge (tgt := 97) hx hb dX8_split_35 (by decide) (fun c6 => ?_) (fun c6 => ?_)
    · have hf := xif_t c6 hf
      refine lv_lload_n hx hb dX8_split_97 rfl (lv_at hl 1 rfl) ?_
      refine lv_aload_n hx hb dX8_split_98 rfl (lv_at hl 0 rfl) ?_
      refine x_get (v := .ref (xAd κ 246)) hc hw co_245 fX8_7 rfl dX8_split_99 ?_
      refine lv_bipush (v := 20) hx hb dX8_split_102 (by decide) ?_
      refine lv_iload_n hx hb dX8_split_104 rfl (lv_at hl 2 rfl) ?_
      refine lv_iadd hx hb dX8_split_105 ?_
      obtain ⟨k7, hf⟩ := xk_of hf
      refine x_lald (n := 304) (f := uF1) hc hw co_246 k7 dX8_split_106 ?_
      refine lv_lmul hx hb dX8_split_107 ?_
      refine lv_lload hx hb dX8_split_108 (lv_at hl 4 rfl) ?_
      obtain ⟨k8, hf⟩ := xk_of hf
      refine lv_ldiv hx hb dX8_split_110 (of_decide_eq_true k8) ?_
      refine lv_iload hx hb dX8_split_111 (lv_at hl 6 rfl) ?_
      refine lv_i2l (v := x9.toInt64) hx hb dX8_split_113 rfl ?_
      refine lv_lload hx hb dX8_split_114 (lv_at hl 5 rfl) ?_
      refine x_lcmp_ge (tgt := 124) hx hb dX8_split_116 dX8_split_117 (by decide) (fun c9 => ?_) (fun c9 => ?_)
      · have hf := xif_t c9 hf
        refine lv_lconst (v := 0) hx hb dX8_split_124 (by decide) ?_
        refine lv_ladd hx hb dX8_split_125 ?_
        cases hf
        exact K _ _ _ _ dX8_split_126 hw
      · have hf := xif_f c9 hf
        refine lv_lconst (v := 1) hx hb dX8_split_120 (by decide) ?_
        refine lv_goto (tgt := 125) hx hb dX8_split_121 (by decide) ?_
        refine lv_ladd hx hb dX8_split_125 ?_
        cases hf
        exact K _ _ _ _ dX8_split_126 hw
    · have hf := xif_f c6 hf
      refine lv_aload_n hx hb dX8_split_38 rfl (lv_at hl 0 rfl) ?_
      refine x_get (v := .ref (xAd κ 246)) hc hw co_245 fX8_7 rfl dX8_split_39 ?_
      refine lv_bipush (v := 14) hx hb dX8_split_42 (by decide) ?_
      refine lv_iload hx hb dX8_split_44 (lv_at hl 7 rfl) ?_
      refine lv_iadd hx hb dX8_split_46 ?_
      obtain ⟨k10, hf⟩ := xk_of hf
      refine x_lald (n := 304) (f := uF1) hc hw co_246 k10 dX8_split_47 ?_
      refine lv_iload hx hb dX8_split_48 (lv_at hl 3 rfl) ?_
      refine lv_i2l (v := x4.toInt64) hx hb dX8_split_50 rfl ?_
      refine x_lcmp_ne (tgt := 91) hx hb dX8_split_51 dX8_split_52 (by decide) (fun c11 => ?_) (fun c11 => ?_)
      · have hf := xif_f c11 hf
        refine lv_iinc (v := (x10 + 1)) (lv' := [(10, .int (x10 + 1)), (0, .ref (xAd κ 245)), (1, .long x1), (3, .int x3), (4, .int x4), (5, .long x5), (7, .long x7), (9, .int x9)]) hx hb dX8_split_91 hl (k := 7) rfl rfl (by decide) rfl (fun ls hl => ?_)
        refine lv_goto (tgt := 29) hx hb dX8_split_94 (by decide) ?_
        exact hi _ _ _ _ _ _ _ _ _ _ hf hw (lv_sub hl [1, 2, 3, 4, 5, 6, 7, 0] rfl)
      · have hf := xif_t c11 hf
        refine lv_lload hx hb dX8_split_55 (lv_at hl 5 rfl) ?_
        refine lv_lload_n hx hb dX8_split_57 rfl (lv_at hl 1 rfl) ?_
        refine lv_aload_n hx hb dX8_split_58 rfl (lv_at hl 0 rfl) ?_
        refine x_get (v := .ref (xAd κ 246)) hc hw co_245 fX8_7 rfl dX8_split_59 ?_
        refine lv_bipush (v := 20) hx hb dX8_split_62 (by decide) ?_
        refine lv_iload hx hb dX8_split_64 (lv_at hl 7 rfl) ?_
        refine lv_iadd hx hb dX8_split_66 ?_
        obtain ⟨k12, hf⟩ := xk_of hf
        refine x_lald (n := 304) (f := uF1) hc hw co_246 k12 dX8_split_67 ?_
        refine lv_lmul hx hb dX8_split_68 ?_
        refine lv_lload hx hb dX8_split_69 (lv_at hl 4 rfl) ?_
        obtain ⟨k13, hf⟩ := xk_of hf
        refine lv_ldiv hx hb dX8_split_71 (of_decide_eq_true k13) ?_
        refine lv_lsub hx hb dX8_split_72 ?_
        refine lv_lstore (lv' := [(7, .long (x7 - ((x1 * (uF1 (20 + x10).toNatClampNeg)) / x5))), (0, .ref (xAd κ 245)), (1, .long x1), (3, .int x3), (4, .int x4), (5, .long x5), (9, .int x9), (10, .int x10)]) hx hb dX8_split_73 hl (by decide) rfl (fun ls hl => ?_)
        refine lv_iload hx hb dX8_split_75 (lv_at hl 6 rfl) ?_
        refine lv_iload hx hb dX8_split_77 (lv_at hl 7 rfl) ?_
        refine lv_iload_n hx hb dX8_split_79 rfl (lv_at hl 3 rfl) ?_
        refine lv_icmp_ge (tgt := 87) hx hb dX8_split_80 (by decide) (fun c14 => ?_) (fun c14 => ?_)
        · have hf := xif_t c14 hf
          refine lv_iconst (v := 0) hx hb dX8_split_87 (by decide) ?_
          refine lv_iadd hx hb dX8_split_88 ?_
          refine lv_istore (lv' := [(9, .int (x9 + 0)), (7, .long (x7 - ((x1 * (uF1 (20 + x10).toNatClampNeg)) / x5))), (0, .ref (xAd κ 245)), (1, .long x1), (3, .int x3), (4, .int x4), (5, .long x5), (10, .int x10)]) hx hb dX8_split_89 hl (by decide) rfl (fun ls hl => ?_)
          refine lv_iinc (v := (x10 + 1)) (lv' := [(10, .int (x10 + 1)), (9, .int (x9 + 0)), (7, .long (x7 - ((x1 * (uF1 (20 + x10).toNatClampNeg)) / x5))), (0, .ref (xAd κ 245)), (1, .long x1), (3, .int x3), (4, .int x4), (5, .long x5)]) hx hb dX8_split_91 hl (k := 7) rfl rfl (by decide) rfl (fun ls hl => ?_)
          refine lv_goto (tgt := 29) hx hb dX8_split_94 (by decide) ?_
          exact hi _ _ _ _ _ _ _ _ _ _ hf hw (lv_sub hl [3, 4, 5, 6, 7, 2, 1, 0] rfl)
        · have hf := xif_f c14 hf
          refine lv_iconst (v := 1) hx hb dX8_split_83 (by decide) ?_
          refine lv_goto (tgt := 88) hx hb dX8_split_84 (by decide) ?_
          refine lv_iadd hx hb dX8_split_88 ?_
          refine lv_istore (lv' := [(9, .int (x9 + 1)), (7, .long (x7 - ((x1 * (uF1 (20 + x10).toNatClampNeg)) / x5))), (0, .ref (xAd κ 245)), (1, .long x1), (3, .int x3), (4, .int x4), (5, .long x5), (10, .int x10)]) hx hb dX8_split_89 hl (by decide) rfl (fun ls hl => ?_)
          refine lv_iinc (v := (x10 + 1)) (lv' := [(10, .int (x10 + 1)), (9, .int (x9 + 1)), (7, .long (x7 - ((x1 * (uF1 (20 + x10).toNatClampNeg)) / x5))), (0, .ref (xAd κ 245)), (1, .long x1), (3, .int x3), (4, .int x4), (5, .long x5)]) hx hb dX8_split_91 hl (k := 7) rfl rfl (by decide) rfl (fun ls hl => ?_)
          refine lv_goto (tgt := 29) hx hb dX8_split_94 (by decide) ?_
          exact hi _ _ _ _ _ _ _ _ _ _ hf hw (lv_sub hl [3, 4, 5, 6, 7, 2, 1, 0] rfl)
set_option maxHeartbeats 4000000 in
set_option maxRecDepth 100000 in
theorem m_X8_split {l : Launch} {κ : xKt} {wA : Nat → sAcc} {wT : sTxt} {wG : sRng} {wM : sMai} {wO : sOut} {fu : Nat} {x1 : Int64} {x3 : Int32} {uF0 : Int32} {uF1 : xF64} {uF2 : xF64} {uF3 : xF64} {uF4 : xF64} {uF5 : Int32} {uF6 : Int32} {uF7 : Int32} {uF8 : xF32} {uF9 : Int32} {uF10 : Int32} {uF11 : Int64} {uF12 : xF32} {uF13 : Int32} {uF14 : Int32} {uF15 : Int32} {uF16 : xF32} {uF17 : xF32} {uF18 : Int32} {rr : Int64} (hf : f_X8_split fu x1 x3 uF1 = some rr) : xMl l κ yX8_split cX8_split 11 (some .long) (xR 2 0 0) [.ref (xAd κ 245), .long x1, .int x3] (wA, wT, wG, wM, (uF0, uF1, uF2, uF3, uF4, uF5, uF6, uF7, uF8, uF9, uF10, uF11, uF12, uF13, uF14, uF15, uF16, uF17, uF18), wO) (wA, wT, wG, wM, (uF0, uF1, uF2, uF3, uF4, uF5, uF6, uF7, uF8, uF9, uF10, uF11, uF12, uF13, uF14, uF15, uF16, uF17, uF18), wO) rr := by
  unfold f_X8_split at hf
  refine xMl_of pn_X8 (Nat.le_of_ble_eq_true rfl) ⟨rfl, rfl⟩ ?_
  intro A p e s m args below meth c ls Q hc hw hl K
  have hc : xC κ A p s m args meth c cX8_split RX8 11 (some .long) := hc
  have hx := hc.1.1
  have hb := hc.1.2.1
  have hl : lv_has ls 11 [(0, .ref (xAd κ 245)), (1, .long x1), (3, .int x3)] := hl
  refine lv_aload_n hx hb dX8_split_0 rfl (lv_at hl 0 rfl) ?_
  refine x_get (v := .ref (xAd κ 246)) hc hw co_245 fX8_7 rfl dX8_split_1 ?_
  refine lv_bipush (v := 14) hx hb dX8_split_4 (by decide) ?_
  refine lv_iload_n hx hb dX8_split_6 rfl (lv_at hl 2 rfl) ?_
  refine lv_iadd hx hb dX8_split_7 ?_
  obtain ⟨k1, hf⟩ := xk_of hf
  refine x_lald (n := 304) (f := uF1) hc hw co_246 k1 dX8_split_8 ?_
  refine lv_l2i (v := (uF1 (14 + x3).toNatClampNeg).toInt32) hx hb dX8_split_9 rfl ?_
  refine lv_istore (lv' := [(4, .int (uF1 (14 + x3).toNatClampNeg).toInt32), (0, .ref (xAd κ 245)), (1, .long x1), (3, .int x3)]) hx hb dX8_split_10 hl (by decide) rfl (fun ls hl => ?_)
  refine lv_aload_n hx hb dX8_split_12 rfl (lv_at hl 1 rfl) ?_
  refine lv_iload hx hb dX8_split_13 (lv_at hl 0 rfl) ?_
  obtain ⟨v2, h3, hf⟩ := xb1_of hf
  refine x_calllV (As := [.int (uF1 (14 + x3).toNatClampNeg).toInt32]) (rest := []) (σ' := (wA, wT, wG, wM, (uF0, uF1, uF2, uF3, uF4, uF5, uF6, uF7, uF8, uF9, uF10, uF11, uF12, uF13, uF14, uF15, uF16, uF17, uF18), wO)) hc hw hl.1 (m_X8_weights h3) kX8_131 co_245 rfl rfl ⟨rfl, rfl⟩ ⟨Nat.le_of_ble_eq_true rfl, Nat.le_of_ble_eq_true rfl⟩ ⟨Nat.zero_le _, Nat.zero_le _⟩ (Nat.le_of_ble_eq_true rfl) dX8_split_15 (fun H locs hw => ?_)
  refine lv_lstore (lv' := [(5, .long v2), (4, .int (uF1 (14 + x3).toNatClampNeg).toInt32), (0, .ref (xAd κ 245)), (1, .long x1), (3, .int x3)]) hx hb dX8_split_18 hl (by decide) rfl (fun ls hl => ?_)
  refine lv_lload_n hx hb dX8_split_20 rfl (lv_at hl 3 rfl) ?_
  refine lv_lstore (lv' := [(7, .long x1), (5, .long v2), (4, .int (uF1 (14 + x3).toNatClampNeg).toInt32), (0, .ref (xAd κ 245)), (1, .long x1), (3, .int x3)]) hx hb dX8_split_21 hl (by decide) rfl (fun ls hl => ?_)
  refine lv_iconst (v := 0) hx hb dX8_split_23 (by decide) ?_
  refine lv_istore (lv' := [(9, .int 0), (7, .long x1), (5, .long v2), (4, .int (uF1 (14 + x3).toNatClampNeg).toInt32), (0, .ref (xAd κ 245)), (1, .long x1), (3, .int x3)]) hx hb dX8_split_24 hl (by decide) rfl (fun ls hl => ?_)
  refine lv_iconst (v := 0) hx hb dX8_split_26 (by decide) ?_
  refine lv_istore (lv' := [(10, .int 0), (9, .int 0), (7, .long x1), (5, .long v2), (4, .int (uF1 (14 + x3).toNatClampNeg).toInt32), (0, .ref (xAd κ 245)), (1, .long x1), (3, .int x3)]) hx hb dX8_split_27 hl (by decide) rfl (fun ls hl => ?_)
  exact l_X8_split_29 hc K fu _ _ _ _ _ _ _ _ _ _ hf hw (lv_sub hl [5, 6, 7, 4, 3, 2, 1, 0] rfl)
def f_X8_shareOf (fu : Nat) (x1 : Int32) (uF1 : xF64) : Option Int64 :=
  xk (xin (14 + x1) 304) (xb1 (f_X8_shareOfSide fu (uF1 (14 + x1).toNatClampNeg).toInt32 uF1) fun v2 => (xb1 (f_X8_split fu v2 x1 uF1) fun v4 => (some v4)))
set_option maxHeartbeats 4000000 in
set_option maxRecDepth 100000 in
theorem m_X8_shareOf {l : Launch} {κ : xKt} {wA : Nat → sAcc} {wT : sTxt} {wG : sRng} {wM : sMai} {wO : sOut} {fu : Nat} {x1 : Int32} {uF0 : Int32} {uF1 : xF64} {uF2 : xF64} {uF3 : xF64} {uF4 : xF64} {uF5 : Int32} {uF6 : Int32} {uF7 : Int32} {uF8 : xF32} {uF9 : Int32} {uF10 : Int32} {uF11 : Int64} {uF12 : xF32} {uF13 : Int32} {uF14 : Int32} {uF15 : Int32} {uF16 : xF32} {uF17 : xF32} {uF18 : Int32} {rr : Int64} (hf : f_X8_shareOf fu x1 uF1 = some rr) : xMl l κ yX8_shareOf cX8_shareOf 2 (some .long) (xR 6 0 0) [.ref (xAd κ 245), .int x1] (wA, wT, wG, wM, (uF0, uF1, uF2, uF3, uF4, uF5, uF6, uF7, uF8, uF9, uF10, uF11, uF12, uF13, uF14, uF15, uF16, uF17, uF18), wO) (wA, wT, wG, wM, (uF0, uF1, uF2, uF3, uF4, uF5, uF6, uF7, uF8, uF9, uF10, uF11, uF12, uF13, uF14, uF15, uF16, uF17, uF18), wO) rr := by
  unfold f_X8_shareOf at hf
  refine xMl_of pn_X8 (Nat.le_of_ble_eq_true rfl) ⟨rfl, rfl⟩ ?_
  intro A p e s m args below meth c ls Q hc hw hl K
  have hc : xC κ A p s m args meth c cX8_shareOf RX8 2 (some .long) := hc
  have hx := hc.1.1
  have hb := hc.1.2.1
  have hl : lv_has ls 2 [(0, .ref (xAd κ 245)), (1, .int x1)] := hl
  refine lv_aload_n hx hb dX8_shareOf_0 rfl (lv_at hl 0 rfl) ?_
  refine lv_aload_n hx hb dX8_shareOf_1 rfl (lv_at hl 0 rfl) ?_
  refine lv_aload_n hx hb dX8_shareOf_2 rfl (lv_at hl 0 rfl) ?_
  refine x_get (v := .ref (xAd κ 246)) hc hw co_245 fX8_7 rfl dX8_shareOf_3 ?_
  refine lv_bipush (v := 14) hx hb dX8_shareOf_6 (by decide) ?_
  refine lv_iload_n hx hb dX8_shareOf_8 rfl (lv_at hl 1 rfl) ?_
  refine lv_iadd hx hb dX8_shareOf_9 ?_
  obtain ⟨k1, hf⟩ := xk_of hf
  refine x_lald (n := 304) (f := uF1) hc hw co_246 k1 dX8_shareOf_10 ?_
  refine lv_l2i (v := (uF1 (14 + x1).toNatClampNeg).toInt32) hx hb dX8_shareOf_11 rfl ?_
  obtain ⟨v2, h3, hf⟩ := xb1_of hf
  refine x_calllV (As := [.int (uF1 (14 + x1).toNatClampNeg).toInt32]) (rest := [.ref (xAd κ 245)]) (σ' := (wA, wT, wG, wM, (uF0, uF1, uF2, uF3, uF4, uF5, uF6, uF7, uF8, uF9, uF10, uF11, uF12, uF13, uF14, uF15, uF16, uF17, uF18), wO)) hc hw hl.1 (m_X8_shareOfSide h3) kX8_134 co_245 rfl rfl ⟨rfl, rfl⟩ ⟨Nat.le_of_ble_eq_true rfl, Nat.le_of_ble_eq_true rfl⟩ ⟨Nat.zero_le _, Nat.zero_le _⟩ (Nat.le_of_ble_eq_true rfl) dX8_shareOf_12 (fun H locs hw => ?_)
  refine lv_iload_n hx hb dX8_shareOf_15 rfl (lv_at hl 1 rfl) ?_
  obtain ⟨v4, h5, hf⟩ := xb1_of hf
  refine x_calllV (As := [.long v2, .int x1]) (rest := []) (σ' := (wA, wT, wG, wM, (uF0, uF1, uF2, uF3, uF4, uF5, uF6, uF7, uF8, uF9, uF10, uF11, uF12, uF13, uF14, uF15, uF16, uF17, uF18), wO)) hc hw hl.1 (m_X8_split h5) kX8_137 co_245 rfl rfl ⟨rfl, rfl⟩ ⟨Nat.le_of_ble_eq_true rfl, Nat.le_of_ble_eq_true rfl⟩ ⟨Nat.zero_le _, Nat.zero_le _⟩ (Nat.le_of_ble_eq_true rfl) dX8_shareOf_16 (fun H locs hw => ?_)
  cases hf
  exact K _ _ _ _ dX8_shareOf_19 hw
def f_X8_held (x1 : Int32) (uF1 : xF64) : Option Int64 :=
  xk (xin (32 + x1) 304) (xk (xin (38 + x1) 304) (xk (xin (44 + x1) 304) (some ((((uF1 (32 + x1).toNatClampNeg) - (uF1 (38 + x1).toNatClampNeg)) - (uF1 (44 + x1).toNatClampNeg))))))
set_option maxHeartbeats 4000000 in
set_option maxRecDepth 100000 in
theorem m_X8_held {l : Launch} {κ : xKt} {wA : Nat → sAcc} {wT : sTxt} {wG : sRng} {wM : sMai} {wO : sOut}  {x1 : Int32} {uF0 : Int32} {uF1 : xF64} {uF2 : xF64} {uF3 : xF64} {uF4 : xF64} {uF5 : Int32} {uF6 : Int32} {uF7 : Int32} {uF8 : xF32} {uF9 : Int32} {uF10 : Int32} {uF11 : Int64} {uF12 : xF32} {uF13 : Int32} {uF14 : Int32} {uF15 : Int32} {uF16 : xF32} {uF17 : xF32} {uF18 : Int32} {rr : Int64} (hf : f_X8_held x1 uF1 = some rr) : xMl l κ yX8_held cX8_held 2 (some .long) (xR 0 0 0) [.ref (xAd κ 245), .int x1] (wA, wT, wG, wM, (uF0, uF1, uF2, uF3, uF4, uF5, uF6, uF7, uF8, uF9, uF10, uF11, uF12, uF13, uF14, uF15, uF16, uF17, uF18), wO) (wA, wT, wG, wM, (uF0, uF1, uF2, uF3, uF4, uF5, uF6, uF7, uF8, uF9, uF10, uF11, uF12, uF13, uF14, uF15, uF16, uF17, uF18), wO) rr := by
  unfold f_X8_held at hf
  refine xMl_of pn_X8 (Nat.le_of_ble_eq_true rfl) ⟨rfl, rfl⟩ ?_
  intro A p e s m args below meth c ls Q hc hw hl K
  have hc : xC κ A p s m args meth c cX8_held RX8 2 (some .long) := hc
  have hx := hc.1.1
  have hb := hc.1.2.1
  have hl : lv_has ls 2 [(0, .ref (xAd κ 245)), (1, .int x1)] := hl
  refine lv_aload_n hx hb dX8_held_0 rfl (lv_at hl 0 rfl) ?_
  refine x_get (v := .ref (xAd κ 246)) hc hw co_245 fX8_7 rfl dX8_held_1 ?_
  refine lv_bipush (v := 32) hx hb dX8_held_4 (by decide) ?_
  refine lv_iload_n hx hb dX8_held_6 rfl (lv_at hl 1 rfl) ?_
  refine lv_iadd hx hb dX8_held_7 ?_
  obtain ⟨k1, hf⟩ := xk_of hf
  refine x_lald (n := 304) (f := uF1) hc hw co_246 k1 dX8_held_8 ?_
  refine lv_aload_n hx hb dX8_held_9 rfl (lv_at hl 0 rfl) ?_
  refine x_get (v := .ref (xAd κ 246)) hc hw co_245 fX8_7 rfl dX8_held_10 ?_
  refine lv_bipush (v := 38) hx hb dX8_held_13 (by decide) ?_
  refine lv_iload_n hx hb dX8_held_15 rfl (lv_at hl 1 rfl) ?_
  refine lv_iadd hx hb dX8_held_16 ?_
  obtain ⟨k2, hf⟩ := xk_of hf
  refine x_lald (n := 304) (f := uF1) hc hw co_246 k2 dX8_held_17 ?_
  refine lv_lsub hx hb dX8_held_18 ?_
  refine lv_aload_n hx hb dX8_held_19 rfl (lv_at hl 0 rfl) ?_
  refine x_get (v := .ref (xAd κ 246)) hc hw co_245 fX8_7 rfl dX8_held_20 ?_
  refine lv_bipush (v := 44) hx hb dX8_held_23 (by decide) ?_
  refine lv_iload_n hx hb dX8_held_25 rfl (lv_at hl 1 rfl) ?_
  refine lv_iadd hx hb dX8_held_26 ?_
  obtain ⟨k3, hf⟩ := xk_of hf
  refine x_lald (n := 304) (f := uF1) hc hw co_246 k3 dX8_held_27 ?_
  refine lv_lsub hx hb dX8_held_28 ?_
  cases hf
  exact K _ _ _ _ dX8_held_29 hw
def f_X8_shortBy (x1 : Int32) (uF1 : xF64) : Option Int64 :=
  xk (xin (26 + x1) 304) (xk (xin (32 + x1) 304) (if (uF1 (26 + x1).toNatClampNeg) ≤ (uF1 (32 + x1).toNatClampNeg) then (some 0) else (xk (xin (26 + x1) 304) (xk (xin (32 + x1) 304) (some (((uF1 (26 + x1).toNatClampNeg) - (uF1 (32 + x1).toNatClampNeg))))))))
set_option maxHeartbeats 4000000 in
set_option maxRecDepth 100000 in
theorem m_X8_shortBy {l : Launch} {κ : xKt} {wA : Nat → sAcc} {wT : sTxt} {wG : sRng} {wM : sMai} {wO : sOut}  {x1 : Int32} {uF0 : Int32} {uF1 : xF64} {uF2 : xF64} {uF3 : xF64} {uF4 : xF64} {uF5 : Int32} {uF6 : Int32} {uF7 : Int32} {uF8 : xF32} {uF9 : Int32} {uF10 : Int32} {uF11 : Int64} {uF12 : xF32} {uF13 : Int32} {uF14 : Int32} {uF15 : Int32} {uF16 : xF32} {uF17 : xF32} {uF18 : Int32} {rr : Int64} (hf : f_X8_shortBy x1 uF1 = some rr) : xMl l κ yX8_shortBy cX8_shortBy 2 (some .long) (xR 0 0 0) [.ref (xAd κ 245), .int x1] (wA, wT, wG, wM, (uF0, uF1, uF2, uF3, uF4, uF5, uF6, uF7, uF8, uF9, uF10, uF11, uF12, uF13, uF14, uF15, uF16, uF17, uF18), wO) (wA, wT, wG, wM, (uF0, uF1, uF2, uF3, uF4, uF5, uF6, uF7, uF8, uF9, uF10, uF11, uF12, uF13, uF14, uF15, uF16, uF17, uF18), wO) rr := by
  unfold f_X8_shortBy at hf
  refine xMl_of pn_X8 (Nat.le_of_ble_eq_true rfl) ⟨rfl, rfl⟩ ?_
  intro A p e s m args below meth c ls Q hc hw hl K
  have hc : xC κ A p s m args meth c cX8_shortBy RX8 2 (some .long) := hc
  have hx := hc.1.1
  have hb := hc.1.2.1
  have hl : lv_has ls 2 [(0, .ref (xAd κ 245)), (1, .int x1)] := hl
  refine lv_aload_n hx hb dX8_shortBy_0 rfl (lv_at hl 0 rfl) ?_
  refine x_get (v := .ref (xAd κ 246)) hc hw co_245 fX8_7 rfl dX8_shortBy_1 ?_
  refine lv_bipush (v := 26) hx hb dX8_shortBy_4 (by decide) ?_
  refine lv_iload_n hx hb dX8_shortBy_6 rfl (lv_at hl 1 rfl) ?_
  refine lv_iadd hx hb dX8_shortBy_7 ?_
  obtain ⟨k1, hf⟩ := xk_of hf
  refine x_lald (n := 304) (f := uF1) hc hw co_246 k1 dX8_shortBy_8 ?_
  refine lv_aload_n hx hb dX8_shortBy_9 rfl (lv_at hl 0 rfl) ?_
  refine x_get (v := .ref (xAd κ 246)) hc hw co_245 fX8_7 rfl dX8_shortBy_10 ?_
  refine lv_bipush (v := 32) hx hb dX8_shortBy_13 (by decide) ?_
  refine lv_iload_n hx hb dX8_shortBy_15 rfl (lv_at hl 1 rfl) ?_
  refine lv_iadd hx hb dX8_shortBy_16 ?_
  obtain ⟨k2, hf⟩ := xk_of hf
  refine x_lald (n := 304) (f := uF1) hc hw co_246 k2 dX8_shortBy_17 ?_
  refine x_lcmp_le (tgt := 44) hx hb dX8_shortBy_18 dX8_shortBy_19 (by decide) (fun c3 => ?_) (fun c3 => ?_)
  · have hf := xif_t c3 hf
    refine lv_lconst (v := 0) hx hb dX8_shortBy_44 (by decide) ?_
    cases hf
    exact K _ _ _ _ dX8_shortBy_45 hw
  · have hf := xif_f c3 hf
    refine lv_aload_n hx hb dX8_shortBy_22 rfl (lv_at hl 0 rfl) ?_
    refine x_get (v := .ref (xAd κ 246)) hc hw co_245 fX8_7 rfl dX8_shortBy_23 ?_
    refine lv_bipush (v := 26) hx hb dX8_shortBy_26 (by decide) ?_
    refine lv_iload_n hx hb dX8_shortBy_28 rfl (lv_at hl 1 rfl) ?_
    refine lv_iadd hx hb dX8_shortBy_29 ?_
    obtain ⟨k4, hf⟩ := xk_of hf
    refine x_lald (n := 304) (f := uF1) hc hw co_246 k4 dX8_shortBy_30 ?_
    refine lv_aload_n hx hb dX8_shortBy_31 rfl (lv_at hl 0 rfl) ?_
    refine x_get (v := .ref (xAd κ 246)) hc hw co_245 fX8_7 rfl dX8_shortBy_32 ?_
    refine lv_bipush (v := 32) hx hb dX8_shortBy_35 (by decide) ?_
    refine lv_iload_n hx hb dX8_shortBy_37 rfl (lv_at hl 1 rfl) ?_
    refine lv_iadd hx hb dX8_shortBy_38 ?_
    obtain ⟨k5, hf⟩ := xk_of hf
    refine x_lald (n := 304) (f := uF1) hc hw co_246 k5 dX8_shortBy_39 ?_
    refine lv_lsub hx hb dX8_shortBy_40 ?_
    refine lv_goto (tgt := 45) hx hb dX8_shortBy_41 (by decide) ?_
    cases hf
    exact K _ _ _ _ dX8_shortBy_45 hw
def f_X8_find_2 (fu : Nat) (uF1 : xF64) : Nat → (Int32) → (Int32) → (Int32) → Option Int32
  | 0, _, _, _ => none
  | n + 1, x1, x2, x3 => xb1 (f_X8_debts uF1) fun v1 => (if v1 ≤ x3 then (some ((-1))) else (xb1 (f_X8_debtAt x3 0) fun v4 => (xk (xin v4 304) (if (uF1 v4.toNatClampNeg) = x1.toInt64 then (xb1 (f_X8_debtAt x3 1) fun v8 => (xk (xin v8 304) (if (uF1 v8.toNatClampNeg) = x2.toInt64 then (some x3) else (f_X8_find_2 fu uF1 n x1 x2 (x3 + 1))))) else (f_X8_find_2 fu uF1 n x1 x2 (x3 + 1))))))
def f_X8_find (fu : Nat) (x1 : Int32) (x2 : Int32) (uF1 : xF64) : Option Int32 :=
  f_X8_find_2 fu uF1 fu x1 x2 0
set_option maxHeartbeats 4000000 in
set_option maxRecDepth 100000 in
theorem l_X8_find_2 {l : Launch} {κ : xKt} {wA : Nat → sAcc} {wT : sTxt} {wG : sRng} {wM : sMai} {wO : sOut} {fu : Nat} {uF0 : Int32} {uF1 : xF64} {uF2 : xF64} {uF3 : xF64} {uF4 : xF64} {uF5 : Int32} {uF6 : Int32} {uF7 : Int32} {uF8 : xF32} {uF9 : Int32} {uF10 : Int32} {uF11 : Int64} {uF12 : xF32} {uF13 : Int32} {uF14 : Int32} {uF15 : Int32} {uF16 : xF32} {uF17 : xF32} {uF18 : Int32} {A : Nat → Prop} {p : Program} {e : Env} {s : State} {m : MethodId} {args : Array Value} {below : List Frame} {meth : Method} {c : Code} {Q : State → Prop} {rr : Int32}
    (hc : xC κ A p s m args meth c cX8_find RX8 4 (some .int))
    (K : ∀ (pc : Nat) (ls : Array Slot) (H : Heap) (locs : List Loc), decode cX8_find pc = .ok (.ireturn, 1) → narrow .int (.int rr) = .int rr → xW κ A s (wA, wT, wG, wM, (uF0, uF1, uF2, uF3, uF4, uF5, uF6, uF7, uF8, uF9, uF10, uF11, uF12, uF13, uF14, uF15, uF16, uF17, uF18), wO) H locs → W p l e (xR 1 0 0) s m args below meth c H locs 0 0 Q (F0 m pc ls [.int rr])) :
    ∀ (n : Nat) (x1 : Int32) (x2 : Int32) (x3 : Int32) (H : Heap) (locs : List Loc) (ls : Array Slot), f_X8_find_2 fu uF1 n x1 x2 x3 = some rr → xW κ A s (wA, wT, wG, wM, (uF0, uF1, uF2, uF3, uF4, uF5, uF6, uF7, uF8, uF9, uF10, uF11, uF12, uF13, uF14, uF15, uF16, uF17, uF18), wO) H locs → lv_has ls 4 [(0, .ref (xAd κ 245)), (1, .int x1), (2, .int x2), (3, .int x3)] → W p l e (xR 1 0 0) s m args below meth c H locs 0 0 Q (F0 m 2 ls []) := by
  have hx := hc.1.1
  have hb := hc.1.2.1
  intro n
  induction n with
  | zero =>
    intro x1 x2 x3 H locs ls hf
    rw [f_X8_find_2] at hf
    cases hf
  | succ n hi =>
    intro x1 x2 x3 H locs ls hf hw hl
    rw [f_X8_find_2] at hf
    refine lv_iload_n hx hb dX8_find_2 rfl (lv_at hl 3 rfl) ?_
    refine lv_aload_n hx hb dX8_find_3 rfl (lv_at hl 0 rfl) ?_
    obtain ⟨v1, h2, hf⟩ := xb1_of hf
    refine x_calliV (As := []) (rest := [.int x3]) (σ' := (wA, wT, wG, wM, (uF0, uF1, uF2, uF3, uF4, uF5, uF6, uF7, uF8, uF9, uF10, uF11, uF12, uF13, uF14, uF15, uF16, uF17, uF18), wO)) hc hw hl.1 (m_X8_debts h2) kX8_70 co_245 rfl rfl ⟨rfl, rfl⟩ ⟨Nat.le_of_ble_eq_true rfl, Nat.le_of_ble_eq_true rfl⟩ ⟨Nat.zero_le _, Nat.zero_le _⟩ (Nat.le_of_ble_eq_true rfl) dX8_find_4 (fun H locs hw => ?_)
    refine lv_icmp_ge (tgt := 52) hx hb dX8_find_7 (by decide) (fun c3 => ?_) (fun c3 => ?_)
    · have hf := xif_t c3 hf
      refine lv_iconst (v := (-1)) hx hb dX8_find_52 (by decide) ?_
      cases hf
      exact K _ _ _ _ dX8_find_53 rfl hw
    · have hf := xif_f c3 hf
      refine lv_aload_n hx hb dX8_find_10 rfl (lv_at hl 0 rfl) ?_
      refine x_get (v := .ref (xAd κ 246)) hc hw co_245 fX8_7 rfl dX8_find_11 ?_
      refine lv_aload_n hx hb dX8_find_14 rfl (lv_at hl 0 rfl) ?_
      refine lv_iload_n hx hb dX8_find_15 rfl (lv_at hl 3 rfl) ?_
      refine lv_iconst (v := 0) hx hb dX8_find_16 (by decide) ?_
      obtain ⟨v4, h5, hf⟩ := xb1_of hf
      refine x_calliV (As := [.int x3, .int 0]) (rest := [.ref (xAd κ 246)]) (σ' := (wA, wT, wG, wM, (uF0, uF1, uF2, uF3, uF4, uF5, uF6, uF7, uF8, uF9, uF10, uF11, uF12, uF13, uF14, uF15, uF16, uF17, uF18), wO)) hc hw hl.1 (m_X8_debtAt h5) kX8_140 co_245 rfl rfl ⟨rfl, rfl⟩ ⟨Nat.le_of_ble_eq_true rfl, Nat.le_of_ble_eq_true rfl⟩ ⟨Nat.zero_le _, Nat.zero_le _⟩ (Nat.le_of_ble_eq_true rfl) dX8_find_17 (fun H locs hw => ?_)
      obtain ⟨k6, hf⟩ := xk_of hf
      refine x_lald (n := 304) (f := uF1) hc hw co_246 k6 dX8_find_20 ?_
      refine lv_iload_n hx hb dX8_find_21 rfl (lv_at hl 1 rfl) ?_
      refine lv_i2l (v := x1.toInt64) hx hb dX8_find_22 rfl ?_
      refine x_lcmp_ne (tgt := 46) hx hb dX8_find_23 dX8_find_24 (by decide) (fun c7 => ?_) (fun c7 => ?_)
      · have hf := xif_f c7 hf
        refine lv_iinc (v := (x3 + 1)) (lv' := [(3, .int (x3 + 1)), (0, .ref (xAd κ 245)), (1, .int x1), (2, .int x2)]) hx hb dX8_find_46 hl (k := 3) rfl rfl (by decide) rfl (fun ls hl => ?_)
        refine lv_goto (tgt := 2) hx hb dX8_find_49 (by decide) ?_
        exact hi _ _ _ _ _ _ hf hw (lv_sub hl [1, 2, 3, 0] rfl)
      · have hf := xif_t c7 hf
        refine lv_aload_n hx hb dX8_find_27 rfl (lv_at hl 0 rfl) ?_
        refine x_get (v := .ref (xAd κ 246)) hc hw co_245 fX8_7 rfl dX8_find_28 ?_
        refine lv_aload_n hx hb dX8_find_31 rfl (lv_at hl 0 rfl) ?_
        refine lv_iload_n hx hb dX8_find_32 rfl (lv_at hl 3 rfl) ?_
        refine lv_iconst (v := 1) hx hb dX8_find_33 (by decide) ?_
        obtain ⟨v8, h9, hf⟩ := xb1_of hf
        refine x_calliV (As := [.int x3, .int 1]) (rest := [.ref (xAd κ 246)]) (σ' := (wA, wT, wG, wM, (uF0, uF1, uF2, uF3, uF4, uF5, uF6, uF7, uF8, uF9, uF10, uF11, uF12, uF13, uF14, uF15, uF16, uF17, uF18), wO)) hc hw hl.1 (m_X8_debtAt h9) kX8_140 co_245 rfl rfl ⟨rfl, rfl⟩ ⟨Nat.le_of_ble_eq_true rfl, Nat.le_of_ble_eq_true rfl⟩ ⟨Nat.zero_le _, Nat.zero_le _⟩ (Nat.le_of_ble_eq_true rfl) dX8_find_34 (fun H locs hw => ?_)
        obtain ⟨k10, hf⟩ := xk_of hf
        refine x_lald (n := 304) (f := uF1) hc hw co_246 k10 dX8_find_37 ?_
        refine lv_iload_n hx hb dX8_find_38 rfl (lv_at hl 2 rfl) ?_
        refine lv_i2l (v := x2.toInt64) hx hb dX8_find_39 rfl ?_
        refine x_lcmp_ne (tgt := 46) hx hb dX8_find_40 dX8_find_41 (by decide) (fun c11 => ?_) (fun c11 => ?_)
        · have hf := xif_f c11 hf
          refine lv_iinc (v := (x3 + 1)) (lv' := [(3, .int (x3 + 1)), (0, .ref (xAd κ 245)), (1, .int x1), (2, .int x2)]) hx hb dX8_find_46 hl (k := 3) rfl rfl (by decide) rfl (fun ls hl => ?_)
          refine lv_goto (tgt := 2) hx hb dX8_find_49 (by decide) ?_
          exact hi _ _ _ _ _ _ hf hw (lv_sub hl [1, 2, 3, 0] rfl)
        · have hf := xif_t c11 hf
          refine lv_iload_n hx hb dX8_find_44 rfl (lv_at hl 3 rfl) ?_
          cases hf
          exact K _ _ _ _ dX8_find_45 rfl hw
set_option maxHeartbeats 4000000 in
set_option maxRecDepth 100000 in
theorem m_X8_find {l : Launch} {κ : xKt} {wA : Nat → sAcc} {wT : sTxt} {wG : sRng} {wM : sMai} {wO : sOut} {fu : Nat} {x1 : Int32} {x2 : Int32} {uF0 : Int32} {uF1 : xF64} {uF2 : xF64} {uF3 : xF64} {uF4 : xF64} {uF5 : Int32} {uF6 : Int32} {uF7 : Int32} {uF8 : xF32} {uF9 : Int32} {uF10 : Int32} {uF11 : Int64} {uF12 : xF32} {uF13 : Int32} {uF14 : Int32} {uF15 : Int32} {uF16 : xF32} {uF17 : xF32} {uF18 : Int32} {rr : Int32} (hf : f_X8_find fu x1 x2 uF1 = some rr) : xMi l κ yX8_find cX8_find 4 (some .int) (xR 1 0 0) [.ref (xAd κ 245), .int x1, .int x2] (wA, wT, wG, wM, (uF0, uF1, uF2, uF3, uF4, uF5, uF6, uF7, uF8, uF9, uF10, uF11, uF12, uF13, uF14, uF15, uF16, uF17, uF18), wO) (wA, wT, wG, wM, (uF0, uF1, uF2, uF3, uF4, uF5, uF6, uF7, uF8, uF9, uF10, uF11, uF12, uF13, uF14, uF15, uF16, uF17, uF18), wO) rr := by
  unfold f_X8_find at hf
  refine xMi_of pn_X8 (Nat.le_of_ble_eq_true rfl) ⟨rfl, rfl⟩ ?_
  intro A p e s m args below meth c ls Q hc hw hl K
  have hc : xC κ A p s m args meth c cX8_find RX8 4 (some .int) := hc
  have hx := hc.1.1
  have hb := hc.1.2.1
  have hl : lv_has ls 4 [(0, .ref (xAd κ 245)), (1, .int x1), (2, .int x2)] := hl
  refine lv_iconst (v := 0) hx hb dX8_find_0 (by decide) ?_
  refine lv_istore_n (lv' := [(3, .int 0), (0, .ref (xAd κ 245)), (1, .int x1), (2, .int x2)]) hx hb dX8_find_1 rfl hl (by decide) rfl (fun ls hl => ?_)
  exact l_X8_find_2 hc K fu _ _ _ _ _ _ hf hw (lv_sub hl [1, 2, 3, 0] rfl)
def f_X8_owing (x1 : Int32) (uF1 : xF64) : Option Int64 :=
  xb1 (f_X8_debtAt x1 2) fun v1 => (xk (xin v1 304) (xb1 (f_X8_debtAt x1 3) fun v4 => (xk (xin v4 304) (some (((uF1 v1.toNatClampNeg) + (uF1 v4.toNatClampNeg)))))))
set_option maxHeartbeats 4000000 in
set_option maxRecDepth 100000 in
theorem m_X8_owing {l : Launch} {κ : xKt} {wA : Nat → sAcc} {wT : sTxt} {wG : sRng} {wM : sMai} {wO : sOut}  {x1 : Int32} {uF0 : Int32} {uF1 : xF64} {uF2 : xF64} {uF3 : xF64} {uF4 : xF64} {uF5 : Int32} {uF6 : Int32} {uF7 : Int32} {uF8 : xF32} {uF9 : Int32} {uF10 : Int32} {uF11 : Int64} {uF12 : xF32} {uF13 : Int32} {uF14 : Int32} {uF15 : Int32} {uF16 : xF32} {uF17 : xF32} {uF18 : Int32} {rr : Int64} (hf : f_X8_owing x1 uF1 = some rr) : xMl l κ yX8_owing cX8_owing 2 (some .long) (xR 1 0 0) [.ref (xAd κ 245), .int x1] (wA, wT, wG, wM, (uF0, uF1, uF2, uF3, uF4, uF5, uF6, uF7, uF8, uF9, uF10, uF11, uF12, uF13, uF14, uF15, uF16, uF17, uF18), wO) (wA, wT, wG, wM, (uF0, uF1, uF2, uF3, uF4, uF5, uF6, uF7, uF8, uF9, uF10, uF11, uF12, uF13, uF14, uF15, uF16, uF17, uF18), wO) rr := by
  unfold f_X8_owing at hf
  refine xMl_of pn_X8 (Nat.le_of_ble_eq_true rfl) ⟨rfl, rfl⟩ ?_
  intro A p e s m args below meth c ls Q hc hw hl K
  have hc : xC κ A p s m args meth c cX8_owing RX8 2 (some .long) := hc
  have hx := hc.1.1
  have hb := hc.1.2.1
  have hl : lv_has ls 2 [(0, .ref (xAd κ 245)), (1, .int x1)] := hl
  refine lv_aload_n hx hb dX8_owing_0 rfl (lv_at hl 0 rfl) ?_
  refine x_get (v := .ref (xAd κ 246)) hc hw co_245 fX8_7 rfl dX8_owing_1 ?_
  refine lv_aload_n hx hb dX8_owing_4 rfl (lv_at hl 0 rfl) ?_
  refine lv_iload_n hx hb dX8_owing_5 rfl (lv_at hl 1 rfl) ?_
  refine lv_iconst (v := 2) hx hb dX8_owing_6 (by decide) ?_
  obtain ⟨v1, h2, hf⟩ := xb1_of hf
  refine x_calliV (As := [.int x1, .int 2]) (rest := [.ref (xAd κ 246)]) (σ' := (wA, wT, wG, wM, (uF0, uF1, uF2, uF3, uF4, uF5, uF6, uF7, uF8, uF9, uF10, uF11, uF12, uF13, uF14, uF15, uF16, uF17, uF18), wO)) hc hw hl.1 (m_X8_debtAt h2) kX8_140 co_245 rfl rfl ⟨rfl, rfl⟩ ⟨Nat.le_of_ble_eq_true rfl, Nat.le_of_ble_eq_true rfl⟩ ⟨Nat.zero_le _, Nat.zero_le _⟩ (Nat.le_of_ble_eq_true rfl) dX8_owing_7 (fun H locs hw => ?_)
  obtain ⟨k3, hf⟩ := xk_of hf
  refine x_lald (n := 304) (f := uF1) hc hw co_246 k3 dX8_owing_10 ?_
  refine lv_aload_n hx hb dX8_owing_11 rfl (lv_at hl 0 rfl) ?_
  refine x_get (v := .ref (xAd κ 246)) hc hw co_245 fX8_7 rfl dX8_owing_12 ?_
  refine lv_aload_n hx hb dX8_owing_15 rfl (lv_at hl 0 rfl) ?_
  refine lv_iload_n hx hb dX8_owing_16 rfl (lv_at hl 1 rfl) ?_
  refine lv_iconst (v := 3) hx hb dX8_owing_17 (by decide) ?_
  obtain ⟨v4, h5, hf⟩ := xb1_of hf
  refine x_calliV (As := [.int x1, .int 3]) (rest := [.ref (xAd κ 246), .long (uF1 v1.toNatClampNeg)]) (σ' := (wA, wT, wG, wM, (uF0, uF1, uF2, uF3, uF4, uF5, uF6, uF7, uF8, uF9, uF10, uF11, uF12, uF13, uF14, uF15, uF16, uF17, uF18), wO)) hc hw hl.1 (m_X8_debtAt h5) kX8_140 co_245 rfl rfl ⟨rfl, rfl⟩ ⟨Nat.le_of_ble_eq_true rfl, Nat.le_of_ble_eq_true rfl⟩ ⟨Nat.zero_le _, Nat.zero_le _⟩ (Nat.le_of_ble_eq_true rfl) dX8_owing_18 (fun H locs hw => ?_)
  obtain ⟨k6, hf⟩ := xk_of hf
  refine x_lald (n := 304) (f := uF1) hc hw co_246 k6 dX8_owing_21 ?_
  refine lv_ladd hx hb dX8_owing_22 ?_
  cases hf
  exact K _ _ _ _ dX8_owing_23 hw
def f_X8_owedBy (fu : Nat) (x1 : Int32) (x2 : Int32) (uF1 : xF64) : Option Int64 :=
  xb1 (f_X8_find fu x1 x2 uF1) fun v1 => (if v1 = (-1) then (some 0) else (xb1 (f_X8_owing v1 uF1) fun v4 => (some v4)))
set_option maxHeartbeats 4000000 in
set_option maxRecDepth 100000 in
theorem m_X8_owedBy {l : Launch} {κ : xKt} {wA : Nat → sAcc} {wT : sTxt} {wG : sRng} {wM : sMai} {wO : sOut} {fu : Nat} {x1 : Int32} {x2 : Int32} {uF0 : Int32} {uF1 : xF64} {uF2 : xF64} {uF3 : xF64} {uF4 : xF64} {uF5 : Int32} {uF6 : Int32} {uF7 : Int32} {uF8 : xF32} {uF9 : Int32} {uF10 : Int32} {uF11 : Int64} {uF12 : xF32} {uF13 : Int32} {uF14 : Int32} {uF15 : Int32} {uF16 : xF32} {uF17 : xF32} {uF18 : Int32} {rr : Int64} (hf : f_X8_owedBy fu x1 x2 uF1 = some rr) : xMl l κ yX8_owedBy cX8_owedBy 4 (some .long) (xR 2 0 0) [.ref (xAd κ 245), .int x1, .int x2] (wA, wT, wG, wM, (uF0, uF1, uF2, uF3, uF4, uF5, uF6, uF7, uF8, uF9, uF10, uF11, uF12, uF13, uF14, uF15, uF16, uF17, uF18), wO) (wA, wT, wG, wM, (uF0, uF1, uF2, uF3, uF4, uF5, uF6, uF7, uF8, uF9, uF10, uF11, uF12, uF13, uF14, uF15, uF16, uF17, uF18), wO) rr := by
  unfold f_X8_owedBy at hf
  refine xMl_of pn_X8 (Nat.le_of_ble_eq_true rfl) ⟨rfl, rfl⟩ ?_
  intro A p e s m args below meth c ls Q hc hw hl K
  have hc : xC κ A p s m args meth c cX8_owedBy RX8 4 (some .long) := hc
  have hx := hc.1.1
  have hb := hc.1.2.1
  have hl : lv_has ls 4 [(0, .ref (xAd κ 245)), (1, .int x1), (2, .int x2)] := hl
  refine lv_aload_n hx hb dX8_owedBy_0 rfl (lv_at hl 0 rfl) ?_
  refine lv_iload_n hx hb dX8_owedBy_1 rfl (lv_at hl 1 rfl) ?_
  refine lv_iload_n hx hb dX8_owedBy_2 rfl (lv_at hl 2 rfl) ?_
  obtain ⟨v1, h2, hf⟩ := xb1_of hf
  refine x_calliV (As := [.int x1, .int x2]) (rest := []) (σ' := (wA, wT, wG, wM, (uF0, uF1, uF2, uF3, uF4, uF5, uF6, uF7, uF8, uF9, uF10, uF11, uF12, uF13, uF14, uF15, uF16, uF17, uF18), wO)) hc hw hl.1 (m_X8_find h2) kX8_143 co_245 rfl rfl ⟨rfl, rfl⟩ ⟨Nat.le_of_ble_eq_true rfl, Nat.le_of_ble_eq_true rfl⟩ ⟨Nat.zero_le _, Nat.zero_le _⟩ (Nat.le_of_ble_eq_true rfl) dX8_owedBy_3 (fun H locs hw => ?_)
  refine lv_istore_n (lv' := [(3, .int v1), (0, .ref (xAd κ 245)), (1, .int x1), (2, .int x2)]) hx hb dX8_owedBy_6 rfl hl (by decide) rfl (fun ls hl => ?_)
  refine lv_iload_n hx hb dX8_owedBy_7 rfl (lv_at hl 0 rfl) ?_
  refine lv_iconst (v := (-1)) hx hb dX8_owedBy_8 (by decide) ?_
  refine lv_icmp_ne (tgt := 16) hx hb dX8_owedBy_9 (by decide) (fun c3 => ?_) (fun c3 => ?_)
  · have hf := xif_f c3 hf
    refine lv_aload_n hx hb dX8_owedBy_16 rfl (lv_at hl 1 rfl) ?_
    refine lv_iload_n hx hb dX8_owedBy_17 rfl (lv_at hl 0 rfl) ?_
    obtain ⟨v4, h5, hf⟩ := xb1_of hf
    refine x_calllV (As := [.int v1]) (rest := []) (σ' := (wA, wT, wG, wM, (uF0, uF1, uF2, uF3, uF4, uF5, uF6, uF7, uF8, uF9, uF10, uF11, uF12, uF13, uF14, uF15, uF16, uF17, uF18), wO)) hc hw hl.1 (m_X8_owing h5) kX8_146 co_245 rfl rfl ⟨rfl, rfl⟩ ⟨Nat.le_of_ble_eq_true rfl, Nat.le_of_ble_eq_true rfl⟩ ⟨Nat.zero_le _, Nat.zero_le _⟩ (Nat.le_of_ble_eq_true rfl) dX8_owedBy_18 (fun H locs hw => ?_)
    cases hf
    exact K _ _ _ _ dX8_owedBy_21 hw
  · have hf := xif_t c3 hf
    refine lv_lconst (v := 0) hx hb dX8_owedBy_12 (by decide) ?_
    refine lv_goto (tgt := 21) hx hb dX8_owedBy_13 (by decide) ?_
    cases hf
    exact K _ _ _ _ dX8_owedBy_21 hw
def f_X8_owes (fu : Nat) (x1 : Int32) (x2 : Int32) (x3 : Int64) (uF1 : xF64) : Option xF64 :=
  xb1 (f_X8_find fu x1 x2 uF1) fun v1 => (if v1 = (-1) then (xb1 (f_X8_debts uF1) fun v8 => (xb1 (f_X8_debtAt v8 0) fun v10 => (xk (xin v10 304) (xb1 (f_X8_debtAt v8 1) fun v13 => (xk (xin v13 304) (xb1 (f_X8_debtAt v8 2) fun v16 => (xk (xin v16 304) (xb1 (f_X8_debtAt v8 3) fun v19 => (xk (xin v19 304) (xb1 (f_X8_debtAt v8 4) fun v22 => (xk (xin v22 304) (xk (xin 4 304) (xk (xin 4 304) (xb1 (f_X8_debtAt v8 2) fun v27 => (xk (xin v27 304) (xk (xin v27 304) (some ((vp_updL (vp_updL (vp_updL (vp_updL (vp_updL (vp_updL (vp_updL uF1 v10.toNatClampNeg x1.toInt64) v13.toNatClampNeg x2.toInt64) v16.toNatClampNeg 0) v19.toNatClampNeg 0) v22.toNatClampNeg 0) (4 : Int32).toNatClampNeg (((vp_updL (vp_updL (vp_updL (vp_updL (vp_updL uF1 v10.toNatClampNeg x1.toInt64) v13.toNatClampNeg x2.toInt64) v16.toNatClampNeg 0) v19.toNatClampNeg 0) v22.toNatClampNeg 0) (4 : Int32).toNatClampNeg) + 1)) v27.toNatClampNeg (((vp_updL (vp_updL (vp_updL (vp_updL (vp_updL (vp_updL uF1 v10.toNatClampNeg x1.toInt64) v13.toNatClampNeg x2.toInt64) v16.toNatClampNeg 0) v19.toNatClampNeg 0) v22.toNatClampNeg 0) (4 : Int32).toNatClampNeg (((vp_updL (vp_updL (vp_updL (vp_updL (vp_updL uF1 v10.toNatClampNeg x1.toInt64) v13.toNatClampNeg x2.toInt64) v16.toNatClampNeg 0) v19.toNatClampNeg 0) v22.toNatClampNeg 0) (4 : Int32).toNatClampNeg) + 1)) v27.toNatClampNeg) + x3)))))))))))))))))))) else (xb1 (f_X8_debtAt v1 2) fun v4 => (xk (xin v4 304) (xk (xin v4 304) (some ((vp_updL uF1 v4.toNatClampNeg ((uF1 v4.toNatClampNeg) + x3))))))))
set_option maxHeartbeats 4000000 in
set_option maxRecDepth 100000 in
theorem m_X8_owes {l : Launch} {κ : xKt} {wA : Nat → sAcc} {wT : sTxt} {wG : sRng} {wM : sMai} {wO : sOut} {fu : Nat} {x1 : Int32} {x2 : Int32} {x3 : Int64} {uF0 : Int32} {uF1 : xF64} {uF2 : xF64} {uF3 : xF64} {uF4 : xF64} {uF5 : Int32} {uF6 : Int32} {uF7 : Int32} {uF8 : xF32} {uF9 : Int32} {uF10 : Int32} {uF11 : Int64} {uF12 : xF32} {uF13 : Int32} {uF14 : Int32} {uF15 : Int32} {uF16 : xF32} {uF17 : xF32} {uF18 : Int32} {yF1 : xF64} (hf : f_X8_owes fu x1 x2 x3 uF1 = some yF1) : xMv l κ yX8_owes cX8_owes 6 none (xR 2 0 0) [.ref (xAd κ 245), .int x1, .int x2, .long x3] (wA, wT, wG, wM, (uF0, uF1, uF2, uF3, uF4, uF5, uF6, uF7, uF8, uF9, uF10, uF11, uF12, uF13, uF14, uF15, uF16, uF17, uF18), wO) (wA, wT, wG, wM, (uF0, yF1, uF2, uF3, uF4, uF5, uF6, uF7, uF8, uF9, uF10, uF11, uF12, uF13, uF14, uF15, uF16, uF17, uF18), wO) := by
  unfold f_X8_owes at hf
  refine xMv_of pn_X8 (Nat.le_of_ble_eq_true rfl) ⟨rfl, rfl⟩ ?_
  intro A p e s m args below meth c ls Q hc hw hl K
  have hc : xC κ A p s m args meth c cX8_owes RX8 6 none := hc
  have hx := hc.1.1
  have hb := hc.1.2.1
  have hl : lv_has ls 6 [(0, .ref (xAd κ 245)), (1, .int x1), (2, .int x2), (3, .long x3)] := hl
  refine lv_aload_n hx hb dX8_owes_0 rfl (lv_at hl 0 rfl) ?_
  refine lv_iload_n hx hb dX8_owes_1 rfl (lv_at hl 1 rfl) ?_
  refine lv_iload_n hx hb dX8_owes_2 rfl (lv_at hl 2 rfl) ?_
  obtain ⟨v1, h2, hf⟩ := xb1_of hf
  refine x_calliV (As := [.int x1, .int x2]) (rest := []) (σ' := (wA, wT, wG, wM, (uF0, uF1, uF2, uF3, uF4, uF5, uF6, uF7, uF8, uF9, uF10, uF11, uF12, uF13, uF14, uF15, uF16, uF17, uF18), wO)) hc hw hl.1 (m_X8_find h2) kX8_143 co_245 rfl rfl ⟨rfl, rfl⟩ ⟨Nat.le_of_ble_eq_true rfl, Nat.le_of_ble_eq_true rfl⟩ ⟨Nat.zero_le _, Nat.zero_le _⟩ (Nat.le_of_ble_eq_true rfl) dX8_owes_3 (fun H locs hw => ?_)
  refine lv_istore (lv' := [(5, .int v1), (0, .ref (xAd κ 245)), (1, .int x1), (2, .int x2), (3, .long x3)]) hx hb dX8_owes_6 hl (by decide) rfl (fun ls hl => ?_)
  refine lv_iload hx hb dX8_owes_8 (lv_at hl 0 rfl) ?_
  refine lv_iconst (v := (-1)) hx hb dX8_owes_10 (by decide) ?_
  refine lv_icmp_ne (tgt := 97) hx hb dX8_owes_11 (by decide) (fun c3 => ?_) (fun c3 => ?_)
  · have hf := xif_f c3 hf
    refine lv_aload_n hx hb dX8_owes_97 rfl (lv_at hl 1 rfl) ?_
    refine x_get (v := .ref (xAd κ 246)) hc hw co_245 fX8_7 rfl dX8_owes_98 ?_
    refine lv_aload_n hx hb dX8_owes_101 rfl (lv_at hl 1 rfl) ?_
    refine lv_iload hx hb dX8_owes_102 (lv_at hl 0 rfl) ?_
    refine lv_iconst (v := 2) hx hb dX8_owes_104 (by decide) ?_
    obtain ⟨v4, h5, hf⟩ := xb1_of hf
    refine x_calliV (As := [.int v1, .int 2]) (rest := [.ref (xAd κ 246)]) (σ' := (wA, wT, wG, wM, (uF0, uF1, uF2, uF3, uF4, uF5, uF6, uF7, uF8, uF9, uF10, uF11, uF12, uF13, uF14, uF15, uF16, uF17, uF18), wO)) hc hw hl.1 (m_X8_debtAt h5) kX8_140 co_245 rfl rfl ⟨rfl, rfl⟩ ⟨Nat.le_of_ble_eq_true rfl, Nat.le_of_ble_eq_true rfl⟩ ⟨Nat.zero_le _, Nat.zero_le _⟩ (Nat.le_of_ble_eq_true rfl) dX8_owes_105 (fun H locs hw => ?_)
    refine lv_dup2_11 hx hb dX8_owes_108 rfl rfl ?_
    obtain ⟨k6, hf⟩ := xk_of hf
    refine x_lald (n := 304) (f := uF1) hc hw co_246 k6 dX8_owes_109 ?_
    refine lv_lload_n hx hb dX8_owes_110 rfl (lv_at hl 4 rfl) ?_
    refine lv_ladd hx hb dX8_owes_111 ?_
    obtain ⟨k7, hf⟩ := xk_of hf
    refine x_last (n := 304) (f := uF1) (σ' := (wA, wT, wG, wM, (uF0, (vp_updL uF1 v4.toNatClampNeg ((uF1 v4.toNatClampNeg) + x3)), uF2, uF3, uF4, uF5, uF6, uF7, uF8, uF9, uF10, uF11, uF12, uF13, uF14, uF15, uF16, uF17, uF18), wO)) hc hw co_246 k7 so_F_1 dX8_owes_112 (fun H locs hw => ?_)
    cases hf
    exact K _ _ _ _ dX8_owes_113 hw
  · have hf := xif_t c3 hf
    refine lv_aload_n hx hb dX8_owes_14 rfl (lv_at hl 1 rfl) ?_
    obtain ⟨v8, h9, hf⟩ := xb1_of hf
    refine x_calliV (As := []) (rest := []) (σ' := (wA, wT, wG, wM, (uF0, uF1, uF2, uF3, uF4, uF5, uF6, uF7, uF8, uF9, uF10, uF11, uF12, uF13, uF14, uF15, uF16, uF17, uF18), wO)) hc hw hl.1 (m_X8_debts h9) kX8_70 co_245 rfl rfl ⟨rfl, rfl⟩ ⟨Nat.le_of_ble_eq_true rfl, Nat.le_of_ble_eq_true rfl⟩ ⟨Nat.zero_le _, Nat.zero_le _⟩ (Nat.le_of_ble_eq_true rfl) dX8_owes_15 (fun H locs hw => ?_)
    refine lv_istore (lv' := [(5, .int v8), (0, .ref (xAd κ 245)), (1, .int x1), (2, .int x2), (3, .long x3)]) hx hb dX8_owes_18 hl (by decide) rfl (fun ls hl => ?_)
    refine lv_aload_n hx hb dX8_owes_20 rfl (lv_at hl 1 rfl) ?_
    refine x_get (v := .ref (xAd κ 246)) hc hw co_245 fX8_7 rfl dX8_owes_21 ?_
    refine lv_aload_n hx hb dX8_owes_24 rfl (lv_at hl 1 rfl) ?_
    refine lv_iload hx hb dX8_owes_25 (lv_at hl 0 rfl) ?_
    refine lv_iconst (v := 0) hx hb dX8_owes_27 (by decide) ?_
    obtain ⟨v10, h11, hf⟩ := xb1_of hf
    refine x_calliV (As := [.int v8, .int 0]) (rest := [.ref (xAd κ 246)]) (σ' := (wA, wT, wG, wM, (uF0, uF1, uF2, uF3, uF4, uF5, uF6, uF7, uF8, uF9, uF10, uF11, uF12, uF13, uF14, uF15, uF16, uF17, uF18), wO)) hc hw hl.1 (m_X8_debtAt h11) kX8_140 co_245 rfl rfl ⟨rfl, rfl⟩ ⟨Nat.le_of_ble_eq_true rfl, Nat.le_of_ble_eq_true rfl⟩ ⟨Nat.zero_le _, Nat.zero_le _⟩ (Nat.le_of_ble_eq_true rfl) dX8_owes_28 (fun H locs hw => ?_)
    refine lv_iload_n hx hb dX8_owes_31 rfl (lv_at hl 2 rfl) ?_
    refine lv_i2l (v := x1.toInt64) hx hb dX8_owes_32 rfl ?_
    obtain ⟨k12, hf⟩ := xk_of hf
    refine x_last (n := 304) (f := uF1) (σ' := (wA, wT, wG, wM, (uF0, (vp_updL uF1 v10.toNatClampNeg x1.toInt64), uF2, uF3, uF4, uF5, uF6, uF7, uF8, uF9, uF10, uF11, uF12, uF13, uF14, uF15, uF16, uF17, uF18), wO)) hc hw co_246 k12 so_F_1 dX8_owes_33 (fun H locs hw => ?_)
    refine lv_aload_n hx hb dX8_owes_34 rfl (lv_at hl 1 rfl) ?_
    refine x_get (v := .ref (xAd κ 246)) hc hw co_245 fX8_7 rfl dX8_owes_35 ?_
    refine lv_aload_n hx hb dX8_owes_38 rfl (lv_at hl 1 rfl) ?_
    refine lv_iload hx hb dX8_owes_39 (lv_at hl 0 rfl) ?_
    refine lv_iconst (v := 1) hx hb dX8_owes_41 (by decide) ?_
    obtain ⟨v13, h14, hf⟩ := xb1_of hf
    refine x_calliV (As := [.int v8, .int 1]) (rest := [.ref (xAd κ 246)]) (σ' := (wA, wT, wG, wM, (uF0, (vp_updL uF1 v10.toNatClampNeg x1.toInt64), uF2, uF3, uF4, uF5, uF6, uF7, uF8, uF9, uF10, uF11, uF12, uF13, uF14, uF15, uF16, uF17, uF18), wO)) hc hw hl.1 (m_X8_debtAt h14) kX8_140 co_245 rfl rfl ⟨rfl, rfl⟩ ⟨Nat.le_of_ble_eq_true rfl, Nat.le_of_ble_eq_true rfl⟩ ⟨Nat.zero_le _, Nat.zero_le _⟩ (Nat.le_of_ble_eq_true rfl) dX8_owes_42 (fun H locs hw => ?_)
    refine lv_iload_n hx hb dX8_owes_45 rfl (lv_at hl 3 rfl) ?_
    refine lv_i2l (v := x2.toInt64) hx hb dX8_owes_46 rfl ?_
    obtain ⟨k15, hf⟩ := xk_of hf
    refine x_last (n := 304) (f := (vp_updL uF1 v10.toNatClampNeg x1.toInt64)) (σ' := (wA, wT, wG, wM, (uF0, (vp_updL (vp_updL uF1 v10.toNatClampNeg x1.toInt64) v13.toNatClampNeg x2.toInt64), uF2, uF3, uF4, uF5, uF6, uF7, uF8, uF9, uF10, uF11, uF12, uF13, uF14, uF15, uF16, uF17, uF18), wO)) hc hw co_246 k15 so_F_1 dX8_owes_47 (fun H locs hw => ?_)
    refine lv_aload_n hx hb dX8_owes_48 rfl (lv_at hl 1 rfl) ?_
    refine x_get (v := .ref (xAd κ 246)) hc hw co_245 fX8_7 rfl dX8_owes_49 ?_
    refine lv_aload_n hx hb dX8_owes_52 rfl (lv_at hl 1 rfl) ?_
    refine lv_iload hx hb dX8_owes_53 (lv_at hl 0 rfl) ?_
    refine lv_iconst (v := 2) hx hb dX8_owes_55 (by decide) ?_
    obtain ⟨v16, h17, hf⟩ := xb1_of hf
    refine x_calliV (As := [.int v8, .int 2]) (rest := [.ref (xAd κ 246)]) (σ' := (wA, wT, wG, wM, (uF0, (vp_updL (vp_updL uF1 v10.toNatClampNeg x1.toInt64) v13.toNatClampNeg x2.toInt64), uF2, uF3, uF4, uF5, uF6, uF7, uF8, uF9, uF10, uF11, uF12, uF13, uF14, uF15, uF16, uF17, uF18), wO)) hc hw hl.1 (m_X8_debtAt h17) kX8_140 co_245 rfl rfl ⟨rfl, rfl⟩ ⟨Nat.le_of_ble_eq_true rfl, Nat.le_of_ble_eq_true rfl⟩ ⟨Nat.zero_le _, Nat.zero_le _⟩ (Nat.le_of_ble_eq_true rfl) dX8_owes_56 (fun H locs hw => ?_)
    refine lv_lconst (v := 0) hx hb dX8_owes_59 (by decide) ?_
    obtain ⟨k18, hf⟩ := xk_of hf
    refine x_last (n := 304) (f := (vp_updL (vp_updL uF1 v10.toNatClampNeg x1.toInt64) v13.toNatClampNeg x2.toInt64)) (σ' := (wA, wT, wG, wM, (uF0, (vp_updL (vp_updL (vp_updL uF1 v10.toNatClampNeg x1.toInt64) v13.toNatClampNeg x2.toInt64) v16.toNatClampNeg 0), uF2, uF3, uF4, uF5, uF6, uF7, uF8, uF9, uF10, uF11, uF12, uF13, uF14, uF15, uF16, uF17, uF18), wO)) hc hw co_246 k18 so_F_1 dX8_owes_60 (fun H locs hw => ?_)
    refine lv_aload_n hx hb dX8_owes_61 rfl (lv_at hl 1 rfl) ?_
    refine x_get (v := .ref (xAd κ 246)) hc hw co_245 fX8_7 rfl dX8_owes_62 ?_
    refine lv_aload_n hx hb dX8_owes_65 rfl (lv_at hl 1 rfl) ?_
    refine lv_iload hx hb dX8_owes_66 (lv_at hl 0 rfl) ?_
    refine lv_iconst (v := 3) hx hb dX8_owes_68 (by decide) ?_
    obtain ⟨v19, h20, hf⟩ := xb1_of hf
    refine x_calliV (As := [.int v8, .int 3]) (rest := [.ref (xAd κ 246)]) (σ' := (wA, wT, wG, wM, (uF0, (vp_updL (vp_updL (vp_updL uF1 v10.toNatClampNeg x1.toInt64) v13.toNatClampNeg x2.toInt64) v16.toNatClampNeg 0), uF2, uF3, uF4, uF5, uF6, uF7, uF8, uF9, uF10, uF11, uF12, uF13, uF14, uF15, uF16, uF17, uF18), wO)) hc hw hl.1 (m_X8_debtAt h20) kX8_140 co_245 rfl rfl ⟨rfl, rfl⟩ ⟨Nat.le_of_ble_eq_true rfl, Nat.le_of_ble_eq_true rfl⟩ ⟨Nat.zero_le _, Nat.zero_le _⟩ (Nat.le_of_ble_eq_true rfl) dX8_owes_69 (fun H locs hw => ?_)
    refine lv_lconst (v := 0) hx hb dX8_owes_72 (by decide) ?_
    obtain ⟨k21, hf⟩ := xk_of hf
    refine x_last (n := 304) (f := (vp_updL (vp_updL (vp_updL uF1 v10.toNatClampNeg x1.toInt64) v13.toNatClampNeg x2.toInt64) v16.toNatClampNeg 0)) (σ' := (wA, wT, wG, wM, (uF0, (vp_updL (vp_updL (vp_updL (vp_updL uF1 v10.toNatClampNeg x1.toInt64) v13.toNatClampNeg x2.toInt64) v16.toNatClampNeg 0) v19.toNatClampNeg 0), uF2, uF3, uF4, uF5, uF6, uF7, uF8, uF9, uF10, uF11, uF12, uF13, uF14, uF15, uF16, uF17, uF18), wO)) hc hw co_246 k21 so_F_1 dX8_owes_73 (fun H locs hw => ?_)
    refine lv_aload_n hx hb dX8_owes_74 rfl (lv_at hl 1 rfl) ?_
    refine x_get (v := .ref (xAd κ 246)) hc hw co_245 fX8_7 rfl dX8_owes_75 ?_
    refine lv_aload_n hx hb dX8_owes_78 rfl (lv_at hl 1 rfl) ?_
    refine lv_iload hx hb dX8_owes_79 (lv_at hl 0 rfl) ?_
    refine lv_iconst (v := 4) hx hb dX8_owes_81 (by decide) ?_
    obtain ⟨v22, h23, hf⟩ := xb1_of hf
    refine x_calliV (As := [.int v8, .int 4]) (rest := [.ref (xAd κ 246)]) (σ' := (wA, wT, wG, wM, (uF0, (vp_updL (vp_updL (vp_updL (vp_updL uF1 v10.toNatClampNeg x1.toInt64) v13.toNatClampNeg x2.toInt64) v16.toNatClampNeg 0) v19.toNatClampNeg 0), uF2, uF3, uF4, uF5, uF6, uF7, uF8, uF9, uF10, uF11, uF12, uF13, uF14, uF15, uF16, uF17, uF18), wO)) hc hw hl.1 (m_X8_debtAt h23) kX8_140 co_245 rfl rfl ⟨rfl, rfl⟩ ⟨Nat.le_of_ble_eq_true rfl, Nat.le_of_ble_eq_true rfl⟩ ⟨Nat.zero_le _, Nat.zero_le _⟩ (Nat.le_of_ble_eq_true rfl) dX8_owes_82 (fun H locs hw => ?_)
    refine lv_lconst (v := 0) hx hb dX8_owes_85 (by decide) ?_
    obtain ⟨k24, hf⟩ := xk_of hf
    refine x_last (n := 304) (f := (vp_updL (vp_updL (vp_updL (vp_updL uF1 v10.toNatClampNeg x1.toInt64) v13.toNatClampNeg x2.toInt64) v16.toNatClampNeg 0) v19.toNatClampNeg 0)) (σ' := (wA, wT, wG, wM, (uF0, (vp_updL (vp_updL (vp_updL (vp_updL (vp_updL uF1 v10.toNatClampNeg x1.toInt64) v13.toNatClampNeg x2.toInt64) v16.toNatClampNeg 0) v19.toNatClampNeg 0) v22.toNatClampNeg 0), uF2, uF3, uF4, uF5, uF6, uF7, uF8, uF9, uF10, uF11, uF12, uF13, uF14, uF15, uF16, uF17, uF18), wO)) hc hw co_246 k24 so_F_1 dX8_owes_86 (fun H locs hw => ?_)
    refine lv_aload_n hx hb dX8_owes_87 rfl (lv_at hl 1 rfl) ?_
    refine x_get (v := .ref (xAd κ 246)) hc hw co_245 fX8_7 rfl dX8_owes_88 ?_
    refine lv_iconst (v := 4) hx hb dX8_owes_91 (by decide) ?_
    refine lv_dup2_11 hx hb dX8_owes_92 rfl rfl ?_
    obtain ⟨k25, hf⟩ := xk_of hf
    refine x_lald (n := 304) (f := (vp_updL (vp_updL (vp_updL (vp_updL (vp_updL uF1 v10.toNatClampNeg x1.toInt64) v13.toNatClampNeg x2.toInt64) v16.toNatClampNeg 0) v19.toNatClampNeg 0) v22.toNatClampNeg 0)) hc hw co_246 k25 dX8_owes_93 ?_
    refine lv_lconst (v := 1) hx hb dX8_owes_94 (by decide) ?_
    refine lv_ladd hx hb dX8_owes_95 ?_
    obtain ⟨k26, hf⟩ := xk_of hf
    refine x_last (n := 304) (f := (vp_updL (vp_updL (vp_updL (vp_updL (vp_updL uF1 v10.toNatClampNeg x1.toInt64) v13.toNatClampNeg x2.toInt64) v16.toNatClampNeg 0) v19.toNatClampNeg 0) v22.toNatClampNeg 0)) (σ' := (wA, wT, wG, wM, (uF0, (vp_updL (vp_updL (vp_updL (vp_updL (vp_updL (vp_updL uF1 v10.toNatClampNeg x1.toInt64) v13.toNatClampNeg x2.toInt64) v16.toNatClampNeg 0) v19.toNatClampNeg 0) v22.toNatClampNeg 0) (4 : Int32).toNatClampNeg (((vp_updL (vp_updL (vp_updL (vp_updL (vp_updL uF1 v10.toNatClampNeg x1.toInt64) v13.toNatClampNeg x2.toInt64) v16.toNatClampNeg 0) v19.toNatClampNeg 0) v22.toNatClampNeg 0) (4 : Int32).toNatClampNeg) + 1)), uF2, uF3, uF4, uF5, uF6, uF7, uF8, uF9, uF10, uF11, uF12, uF13, uF14, uF15, uF16, uF17, uF18), wO)) hc hw co_246 k26 so_F_1 dX8_owes_96 (fun H locs hw => ?_)
    refine lv_aload_n hx hb dX8_owes_97 rfl (lv_at hl 1 rfl) ?_
    refine x_get (v := .ref (xAd κ 246)) hc hw co_245 fX8_7 rfl dX8_owes_98 ?_
    refine lv_aload_n hx hb dX8_owes_101 rfl (lv_at hl 1 rfl) ?_
    refine lv_iload hx hb dX8_owes_102 (lv_at hl 0 rfl) ?_
    refine lv_iconst (v := 2) hx hb dX8_owes_104 (by decide) ?_
    obtain ⟨v27, h28, hf⟩ := xb1_of hf
    refine x_calliV (As := [.int v8, .int 2]) (rest := [.ref (xAd κ 246)]) (σ' := (wA, wT, wG, wM, (uF0, (vp_updL (vp_updL (vp_updL (vp_updL (vp_updL (vp_updL uF1 v10.toNatClampNeg x1.toInt64) v13.toNatClampNeg x2.toInt64) v16.toNatClampNeg 0) v19.toNatClampNeg 0) v22.toNatClampNeg 0) (4 : Int32).toNatClampNeg (((vp_updL (vp_updL (vp_updL (vp_updL (vp_updL uF1 v10.toNatClampNeg x1.toInt64) v13.toNatClampNeg x2.toInt64) v16.toNatClampNeg 0) v19.toNatClampNeg 0) v22.toNatClampNeg 0) (4 : Int32).toNatClampNeg) + 1)), uF2, uF3, uF4, uF5, uF6, uF7, uF8, uF9, uF10, uF11, uF12, uF13, uF14, uF15, uF16, uF17, uF18), wO)) hc hw hl.1 (m_X8_debtAt h28) kX8_140 co_245 rfl rfl ⟨rfl, rfl⟩ ⟨Nat.le_of_ble_eq_true rfl, Nat.le_of_ble_eq_true rfl⟩ ⟨Nat.zero_le _, Nat.zero_le _⟩ (Nat.le_of_ble_eq_true rfl) dX8_owes_105 (fun H locs hw => ?_)
    refine lv_dup2_11 hx hb dX8_owes_108 rfl rfl ?_
    obtain ⟨k29, hf⟩ := xk_of hf
    refine x_lald (n := 304) (f := (vp_updL (vp_updL (vp_updL (vp_updL (vp_updL (vp_updL uF1 v10.toNatClampNeg x1.toInt64) v13.toNatClampNeg x2.toInt64) v16.toNatClampNeg 0) v19.toNatClampNeg 0) v22.toNatClampNeg 0) (4 : Int32).toNatClampNeg (((vp_updL (vp_updL (vp_updL (vp_updL (vp_updL uF1 v10.toNatClampNeg x1.toInt64) v13.toNatClampNeg x2.toInt64) v16.toNatClampNeg 0) v19.toNatClampNeg 0) v22.toNatClampNeg 0) (4 : Int32).toNatClampNeg) + 1))) hc hw co_246 k29 dX8_owes_109 ?_
    refine lv_lload_n hx hb dX8_owes_110 rfl (lv_at hl 4 rfl) ?_
    refine lv_ladd hx hb dX8_owes_111 ?_
    obtain ⟨k30, hf⟩ := xk_of hf
    refine x_last (n := 304) (f := (vp_updL (vp_updL (vp_updL (vp_updL (vp_updL (vp_updL uF1 v10.toNatClampNeg x1.toInt64) v13.toNatClampNeg x2.toInt64) v16.toNatClampNeg 0) v19.toNatClampNeg 0) v22.toNatClampNeg 0) (4 : Int32).toNatClampNeg (((vp_updL (vp_updL (vp_updL (vp_updL (vp_updL uF1 v10.toNatClampNeg x1.toInt64) v13.toNatClampNeg x2.toInt64) v16.toNatClampNeg 0) v19.toNatClampNeg 0) v22.toNatClampNeg 0) (4 : Int32).toNatClampNeg) + 1))) (σ' := (wA, wT, wG, wM, (uF0, (vp_updL (vp_updL (vp_updL (vp_updL (vp_updL (vp_updL (vp_updL uF1 v10.toNatClampNeg x1.toInt64) v13.toNatClampNeg x2.toInt64) v16.toNatClampNeg 0) v19.toNatClampNeg 0) v22.toNatClampNeg 0) (4 : Int32).toNatClampNeg (((vp_updL (vp_updL (vp_updL (vp_updL (vp_updL uF1 v10.toNatClampNeg x1.toInt64) v13.toNatClampNeg x2.toInt64) v16.toNatClampNeg 0) v19.toNatClampNeg 0) v22.toNatClampNeg 0) (4 : Int32).toNatClampNeg) + 1)) v27.toNatClampNeg (((vp_updL (vp_updL (vp_updL (vp_updL (vp_updL (vp_updL uF1 v10.toNatClampNeg x1.toInt64) v13.toNatClampNeg x2.toInt64) v16.toNatClampNeg 0) v19.toNatClampNeg 0) v22.toNatClampNeg 0) (4 : Int32).toNatClampNeg (((vp_updL (vp_updL (vp_updL (vp_updL (vp_updL uF1 v10.toNatClampNeg x1.toInt64) v13.toNatClampNeg x2.toInt64) v16.toNatClampNeg 0) v19.toNatClampNeg 0) v22.toNatClampNeg 0) (4 : Int32).toNatClampNeg) + 1)) v27.toNatClampNeg) + x3)), uF2, uF3, uF4, uF5, uF6, uF7, uF8, uF9, uF10, uF11, uF12, uF13, uF14, uF15, uF16, uF17, uF18), wO)) hc hw co_246 k30 so_F_1 dX8_owes_112 (fun H locs hw => ?_)
    cases hf
    exact K _ _ _ _ dX8_owes_113 hw
def f_X8_pays_82 (fu : Nat) : Nat → (Int32) → (xF64) → Option xF64
  | 0, _, _ => none
  | n + 1, x8, uF1 => xb1 (f_X8_debts uF1) fun v21 => (xb1 (f_X8_debtAt (v21 - 1) 0) fun v23 => (if v23 ≤ x8 then (xk (xin 4 304) (xk (xin 4 304) (some ((vp_updL uF1 (4 : Int32).toNatClampNeg ((uF1 (4 : Int32).toNatClampNeg) - 1)))))) else (xk (xin (x8 + 5) 304) (xk (xin x8 304) (f_X8_pays_82 fu n (x8 + 1) (vp_updL uF1 x8.toNatClampNeg (uF1 (x8 + 5).toNatClampNeg)))))))
def f_X8_pays (fu : Nat) (x1 : Int32) (x2 : Int32) (x3 : Int64) (uF1 : xF64) : Option xF64 :=
  xb1 (f_X8_find fu x1 x2 uF1) fun v1 => (xb1 (f_X8_debtAt v1 3) fun v3 => (xk (xin v3 304) (xb1 (f_X8_least x3 (uF1 v3.toNatClampNeg)) fun v6 => (xb1 (f_X8_debtAt v1 3) fun v8 => (xk (xin v8 304) (xk (xin v8 304) (xb1 (f_X8_debtAt v1 2) fun v12 => (xk (xin v12 304) (xk (xin v12 304) (xb1 (f_X8_owing v1 (vp_updL (vp_updL uF1 v8.toNatClampNeg ((uF1 v8.toNatClampNeg) - v6)) v12.toNatClampNeg (((vp_updL uF1 v8.toNatClampNeg ((uF1 v8.toNatClampNeg) - v6)) v12.toNatClampNeg) - (x3 - v6)))) fun v16 => (if v16 = 0 then (xb1 (f_X8_debtAt v1 0) fun v19 => (f_X8_pays_82 fu fu v19 (vp_updL (vp_updL uF1 v8.toNatClampNeg ((uF1 v8.toNatClampNeg) - v6)) v12.toNatClampNeg (((vp_updL uF1 v8.toNatClampNeg ((uF1 v8.toNatClampNeg) - v6)) v12.toNatClampNeg) - (x3 - v6))))) else (some ((vp_updL (vp_updL uF1 v8.toNatClampNeg ((uF1 v8.toNatClampNeg) - v6)) v12.toNatClampNeg (((vp_updL uF1 v8.toNatClampNeg ((uF1 v8.toNatClampNeg) - v6)) v12.toNatClampNeg) - (x3 - v6))))))))))))))))
set_option maxHeartbeats 4000000 in
set_option maxRecDepth 100000 in
theorem l_X8_pays_82 {l : Launch} {κ : xKt} {wA : Nat → sAcc} {wT : sTxt} {wG : sRng} {wM : sMai} {wO : sOut} {fu : Nat} {uF0 : Int32} {uF2 : xF64} {uF3 : xF64} {uF4 : xF64} {uF5 : Int32} {uF6 : Int32} {uF7 : Int32} {uF8 : xF32} {uF9 : Int32} {uF10 : Int32} {uF11 : Int64} {uF12 : xF32} {uF13 : Int32} {uF14 : Int32} {uF15 : Int32} {uF16 : xF32} {uF17 : xF32} {uF18 : Int32} {A : Nat → Prop} {p : Program} {e : Env} {s : State} {m : MethodId} {args : Array Value} {below : List Frame} {meth : Method} {c : Code} {Q : State → Prop} {yF1 : xF64}
    (hc : xC κ A p s m args meth c cX8_pays RX8 9 none)
    (K : ∀ (pc : Nat) (ls : Array Slot) (H : Heap) (locs : List Loc), decode cX8_pays pc = .ok (.return_, 1) → xW κ A s (wA, wT, wG, wM, (uF0, yF1, uF2, uF3, uF4, uF5, uF6, uF7, uF8, uF9, uF10, uF11, uF12, uF13, uF14, uF15, uF16, uF17, uF18), wO) H locs → W p l e (xR 2 0 0) s m args below meth c H locs 0 0 Q (F0 m pc ls [])) :
    ∀ (n : Nat) (x8 : Int32) (uF1 : xF64) (H : Heap) (locs : List Loc) (ls : Array Slot), f_X8_pays_82 fu n x8 uF1 = some yF1 → xW κ A s (wA, wT, wG, wM, (uF0, uF1, uF2, uF3, uF4, uF5, uF6, uF7, uF8, uF9, uF10, uF11, uF12, uF13, uF14, uF15, uF16, uF17, uF18), wO) H locs → lv_has ls 9 [(0, .ref (xAd κ 245)), (8, .int x8)] → W p l e (xR 2 0 0) s m args below meth c H locs 0 0 Q (F0 m 82 ls []) := by
  have hx := hc.1.1
  have hb := hc.1.2.1
  intro n
  induction n with
  | zero =>
    intro x8 uF1 H locs ls hf
    rw [f_X8_pays_82] at hf
    cases hf
  | succ n hi =>
    intro x8 uF1 H locs ls hf hw hl
    rw [f_X8_pays_82] at hf
    refine lv_iload hx hb dX8_pays_82 (lv_at hl 1 rfl) ?_
    refine lv_aload_n hx hb dX8_pays_84 rfl (lv_at hl 0 rfl) ?_
    refine lv_aload_n hx hb dX8_pays_85 rfl (lv_at hl 0 rfl) ?_
    obtain ⟨v21, h22, hf⟩ := xb1_of hf
    refine x_calliV (As := []) (rest := [.ref (xAd κ 245), .int x8]) (σ' := (wA, wT, wG, wM, (uF0, uF1, uF2, uF3, uF4, uF5, uF6, uF7, uF8, uF9, uF10, uF11, uF12, uF13, uF14, uF15, uF16, uF17, uF18), wO)) hc hw hl.1 (m_X8_debts h22) kX8_70 co_245 rfl rfl ⟨rfl, rfl⟩ ⟨Nat.le_of_ble_eq_true rfl, Nat.le_of_ble_eq_true rfl⟩ ⟨Nat.zero_le _, Nat.zero_le _⟩ (Nat.le_of_ble_eq_true rfl) dX8_pays_86 (fun H locs hw => ?_)
    refine lv_iconst (v := 1) hx hb dX8_pays_89 (by decide) ?_
    refine lv_isub hx hb dX8_pays_90 ?_
    refine lv_iconst (v := 0) hx hb dX8_pays_91 (by decide) ?_
    obtain ⟨v23, h24, hf⟩ := xb1_of hf
    refine x_calliV (As := [.int (v21 - 1), .int 0]) (rest := [.int x8]) (σ' := (wA, wT, wG, wM, (uF0, uF1, uF2, uF3, uF4, uF5, uF6, uF7, uF8, uF9, uF10, uF11, uF12, uF13, uF14, uF15, uF16, uF17, uF18), wO)) hc hw hl.1 (m_X8_debtAt h24) kX8_140 co_245 rfl rfl ⟨rfl, rfl⟩ ⟨Nat.le_of_ble_eq_true rfl, Nat.le_of_ble_eq_true rfl⟩ ⟨Nat.zero_le _, Nat.zero_le _⟩ (Nat.le_of_ble_eq_true rfl) dX8_pays_92 (fun H locs hw => ?_)
    refine lv_icmp_ge (tgt := 120) hx hb dX8_pays_95 (by decide) (fun c25 => ?_) (fun c25 => ?_)
    · have hf := xif_t c25 hf
      refine lv_aload_n hx hb dX8_pays_120 rfl (lv_at hl 0 rfl) ?_
      refine x_get (v := .ref (xAd κ 246)) hc hw co_245 fX8_7 rfl dX8_pays_121 ?_
      refine lv_iconst (v := 4) hx hb dX8_pays_124 (by decide) ?_
      refine lv_dup2_11 hx hb dX8_pays_125 rfl rfl ?_
      obtain ⟨k26, hf⟩ := xk_of hf
      refine x_lald (n := 304) (f := uF1) hc hw co_246 k26 dX8_pays_126 ?_
      refine lv_lconst (v := 1) hx hb dX8_pays_127 (by decide) ?_
      refine lv_lsub hx hb dX8_pays_128 ?_
      obtain ⟨k27, hf⟩ := xk_of hf
      refine x_last (n := 304) (f := uF1) (σ' := (wA, wT, wG, wM, (uF0, (vp_updL uF1 (4 : Int32).toNatClampNeg ((uF1 (4 : Int32).toNatClampNeg) - 1)), uF2, uF3, uF4, uF5, uF6, uF7, uF8, uF9, uF10, uF11, uF12, uF13, uF14, uF15, uF16, uF17, uF18), wO)) hc hw co_246 k27 so_F_1 dX8_pays_129 (fun H locs hw => ?_)
      cases hf
      exact K _ _ _ _ dX8_pays_130 hw
    · have hf := xif_f c25 hf
      refine lv_aload_n hx hb dX8_pays_98 rfl (lv_at hl 0 rfl) ?_
      refine x_get (v := .ref (xAd κ 246)) hc hw co_245 fX8_7 rfl dX8_pays_99 ?_
      refine lv_iload hx hb dX8_pays_102 (lv_at hl 1 rfl) ?_
      refine lv_aload_n hx hb dX8_pays_104 rfl (lv_at hl 0 rfl) ?_
      refine x_get (v := .ref (xAd κ 246)) hc hw co_245 fX8_7 rfl dX8_pays_105 ?_
      refine lv_iload hx hb dX8_pays_108 (lv_at hl 1 rfl) ?_
      refine lv_iconst (v := 5) hx hb dX8_pays_110 (by decide) ?_
      refine lv_iadd hx hb dX8_pays_111 ?_
      obtain ⟨k28, hf⟩ := xk_of hf
      refine x_lald (n := 304) (f := uF1) hc hw co_246 k28 dX8_pays_112 ?_
      obtain ⟨k29, hf⟩ := xk_of hf
      refine x_last (n := 304) (f := uF1) (σ' := (wA, wT, wG, wM, (uF0, (vp_updL uF1 x8.toNatClampNeg (uF1 (x8 + 5).toNatClampNeg)), uF2, uF3, uF4, uF5, uF6, uF7, uF8, uF9, uF10, uF11, uF12, uF13, uF14, uF15, uF16, uF17, uF18), wO)) hc hw co_246 k29 so_F_1 dX8_pays_113 (fun H locs hw => ?_)
      refine lv_iinc (v := (x8 + 1)) (lv' := [(8, .int (x8 + 1)), (0, .ref (xAd κ 245))]) hx hb dX8_pays_114 hl (k := 1) rfl rfl (by decide) rfl (fun ls hl => ?_)
      refine lv_goto (tgt := 82) hx hb dX8_pays_117 (by decide) ?_
      exact hi _ _ _ _ _ hf hw (lv_sub hl [1, 0] rfl)
set_option maxHeartbeats 4000000 in
set_option maxRecDepth 100000 in
theorem m_X8_pays {l : Launch} {κ : xKt} {wA : Nat → sAcc} {wT : sTxt} {wG : sRng} {wM : sMai} {wO : sOut} {fu : Nat} {x1 : Int32} {x2 : Int32} {x3 : Int64} {uF0 : Int32} {uF1 : xF64} {uF2 : xF64} {uF3 : xF64} {uF4 : xF64} {uF5 : Int32} {uF6 : Int32} {uF7 : Int32} {uF8 : xF32} {uF9 : Int32} {uF10 : Int32} {uF11 : Int64} {uF12 : xF32} {uF13 : Int32} {uF14 : Int32} {uF15 : Int32} {uF16 : xF32} {uF17 : xF32} {uF18 : Int32} {yF1 : xF64} (hf : f_X8_pays fu x1 x2 x3 uF1 = some yF1) : xMv l κ yX8_pays cX8_pays 9 none (xR 2 0 0) [.ref (xAd κ 245), .int x1, .int x2, .long x3] (wA, wT, wG, wM, (uF0, uF1, uF2, uF3, uF4, uF5, uF6, uF7, uF8, uF9, uF10, uF11, uF12, uF13, uF14, uF15, uF16, uF17, uF18), wO) (wA, wT, wG, wM, (uF0, yF1, uF2, uF3, uF4, uF5, uF6, uF7, uF8, uF9, uF10, uF11, uF12, uF13, uF14, uF15, uF16, uF17, uF18), wO) := by
  unfold f_X8_pays at hf
  refine xMv_of pn_X8 (Nat.le_of_ble_eq_true rfl) ⟨rfl, rfl⟩ ?_
  intro A p e s m args below meth c ls Q hc hw hl K
  have hc : xC κ A p s m args meth c cX8_pays RX8 9 none := hc
  have hx := hc.1.1
  have hb := hc.1.2.1
  have hl : lv_has ls 9 [(0, .ref (xAd κ 245)), (1, .int x1), (2, .int x2), (3, .long x3)] := hl
  refine lv_aload_n hx hb dX8_pays_0 rfl (lv_at hl 0 rfl) ?_
  refine lv_iload_n hx hb dX8_pays_1 rfl (lv_at hl 1 rfl) ?_
  refine lv_iload_n hx hb dX8_pays_2 rfl (lv_at hl 2 rfl) ?_
  obtain ⟨v1, h2, hf⟩ := xb1_of hf
  refine x_calliV (As := [.int x1, .int x2]) (rest := []) (σ' := (wA, wT, wG, wM, (uF0, uF1, uF2, uF3, uF4, uF5, uF6, uF7, uF8, uF9, uF10, uF11, uF12, uF13, uF14, uF15, uF16, uF17, uF18), wO)) hc hw hl.1 (m_X8_find h2) kX8_143 co_245 rfl rfl ⟨rfl, rfl⟩ ⟨Nat.le_of_ble_eq_true rfl, Nat.le_of_ble_eq_true rfl⟩ ⟨Nat.zero_le _, Nat.zero_le _⟩ (Nat.le_of_ble_eq_true rfl) dX8_pays_3 (fun H locs hw => ?_)
  refine lv_istore (lv' := [(5, .int v1), (0, .ref (xAd κ 245)), (1, .int x1), (2, .int x2), (3, .long x3)]) hx hb dX8_pays_6 hl (by decide) rfl (fun ls hl => ?_)
  refine lv_lload_n hx hb dX8_pays_8 rfl (lv_at hl 4 rfl) ?_
  refine lv_aload_n hx hb dX8_pays_9 rfl (lv_at hl 1 rfl) ?_
  refine x_get (v := .ref (xAd κ 246)) hc hw co_245 fX8_7 rfl dX8_pays_10 ?_
  refine lv_aload_n hx hb dX8_pays_13 rfl (lv_at hl 1 rfl) ?_
  refine lv_iload hx hb dX8_pays_14 (lv_at hl 0 rfl) ?_
  refine lv_iconst (v := 3) hx hb dX8_pays_16 (by decide) ?_
  obtain ⟨v3, h4, hf⟩ := xb1_of hf
  refine x_calliV (As := [.int v1, .int 3]) (rest := [.ref (xAd κ 246), .long x3]) (σ' := (wA, wT, wG, wM, (uF0, uF1, uF2, uF3, uF4, uF5, uF6, uF7, uF8, uF9, uF10, uF11, uF12, uF13, uF14, uF15, uF16, uF17, uF18), wO)) hc hw hl.1 (m_X8_debtAt h4) kX8_140 co_245 rfl rfl ⟨rfl, rfl⟩ ⟨Nat.le_of_ble_eq_true rfl, Nat.le_of_ble_eq_true rfl⟩ ⟨Nat.zero_le _, Nat.zero_le _⟩ (Nat.le_of_ble_eq_true rfl) dX8_pays_17 (fun H locs hw => ?_)
  obtain ⟨k5, hf⟩ := xk_of hf
  refine x_lald (n := 304) (f := uF1) hc hw co_246 k5 dX8_pays_20 ?_
  obtain ⟨v6, h7, hf⟩ := xb1_of hf
  refine x_calllS (As := [.long x3, .long (uF1 v3.toNatClampNeg)]) (rest := []) (σ' := (wA, wT, wG, wM, (uF0, uF1, uF2, uF3, uF4, uF5, uF6, uF7, uF8, uF9, uF10, uF11, uF12, uF13, uF14, uF15, uF16, uF17, uF18), wO)) hc hw hl.1 (m_X8_least h7) kX8_99 rfl rfl ⟨rfl, rfl⟩ ⟨Nat.le_of_ble_eq_true rfl, Nat.le_of_ble_eq_true rfl⟩ ⟨Nat.zero_le _, Nat.zero_le _⟩ (Nat.le_of_ble_eq_true rfl) dX8_pays_21 (fun H locs hw => ?_)
  refine lv_lstore (lv' := [(6, .long v6), (5, .int v1), (0, .ref (xAd κ 245)), (1, .int x1), (2, .int x2), (3, .long x3)]) hx hb dX8_pays_24 hl (by decide) rfl (fun ls hl => ?_)
  refine lv_aload_n hx hb dX8_pays_26 rfl (lv_at hl 2 rfl) ?_
  refine x_get (v := .ref (xAd κ 246)) hc hw co_245 fX8_7 rfl dX8_pays_27 ?_
  refine lv_aload_n hx hb dX8_pays_30 rfl (lv_at hl 2 rfl) ?_
  refine lv_iload hx hb dX8_pays_31 (lv_at hl 1 rfl) ?_
  refine lv_iconst (v := 3) hx hb dX8_pays_33 (by decide) ?_
  obtain ⟨v8, h9, hf⟩ := xb1_of hf
  refine x_calliV (As := [.int v1, .int 3]) (rest := [.ref (xAd κ 246)]) (σ' := (wA, wT, wG, wM, (uF0, uF1, uF2, uF3, uF4, uF5, uF6, uF7, uF8, uF9, uF10, uF11, uF12, uF13, uF14, uF15, uF16, uF17, uF18), wO)) hc hw hl.1 (m_X8_debtAt h9) kX8_140 co_245 rfl rfl ⟨rfl, rfl⟩ ⟨Nat.le_of_ble_eq_true rfl, Nat.le_of_ble_eq_true rfl⟩ ⟨Nat.zero_le _, Nat.zero_le _⟩ (Nat.le_of_ble_eq_true rfl) dX8_pays_34 (fun H locs hw => ?_)
  refine lv_dup2_11 hx hb dX8_pays_37 rfl rfl ?_
  obtain ⟨k10, hf⟩ := xk_of hf
  refine x_lald (n := 304) (f := uF1) hc hw co_246 k10 dX8_pays_38 ?_
  refine lv_lload hx hb dX8_pays_39 (lv_at hl 0 rfl) ?_
  refine lv_lsub hx hb dX8_pays_41 ?_
  obtain ⟨k11, hf⟩ := xk_of hf
  refine x_last (n := 304) (f := uF1) (σ' := (wA, wT, wG, wM, (uF0, (vp_updL uF1 v8.toNatClampNeg ((uF1 v8.toNatClampNeg) - v6)), uF2, uF3, uF4, uF5, uF6, uF7, uF8, uF9, uF10, uF11, uF12, uF13, uF14, uF15, uF16, uF17, uF18), wO)) hc hw co_246 k11 so_F_1 dX8_pays_42 (fun H locs hw => ?_)
  refine lv_aload_n hx hb dX8_pays_43 rfl (lv_at hl 2 rfl) ?_
  refine x_get (v := .ref (xAd κ 246)) hc hw co_245 fX8_7 rfl dX8_pays_44 ?_
  refine lv_aload_n hx hb dX8_pays_47 rfl (lv_at hl 2 rfl) ?_
  refine lv_iload hx hb dX8_pays_48 (lv_at hl 1 rfl) ?_
  refine lv_iconst (v := 2) hx hb dX8_pays_50 (by decide) ?_
  obtain ⟨v12, h13, hf⟩ := xb1_of hf
  refine x_calliV (As := [.int v1, .int 2]) (rest := [.ref (xAd κ 246)]) (σ' := (wA, wT, wG, wM, (uF0, (vp_updL uF1 v8.toNatClampNeg ((uF1 v8.toNatClampNeg) - v6)), uF2, uF3, uF4, uF5, uF6, uF7, uF8, uF9, uF10, uF11, uF12, uF13, uF14, uF15, uF16, uF17, uF18), wO)) hc hw hl.1 (m_X8_debtAt h13) kX8_140 co_245 rfl rfl ⟨rfl, rfl⟩ ⟨Nat.le_of_ble_eq_true rfl, Nat.le_of_ble_eq_true rfl⟩ ⟨Nat.zero_le _, Nat.zero_le _⟩ (Nat.le_of_ble_eq_true rfl) dX8_pays_51 (fun H locs hw => ?_)
  refine lv_dup2_11 hx hb dX8_pays_54 rfl rfl ?_
  obtain ⟨k14, hf⟩ := xk_of hf
  refine x_lald (n := 304) (f := (vp_updL uF1 v8.toNatClampNeg ((uF1 v8.toNatClampNeg) - v6))) hc hw co_246 k14 dX8_pays_55 ?_
  refine lv_lload_n hx hb dX8_pays_56 rfl (lv_at hl 5 rfl) ?_
  refine lv_lload hx hb dX8_pays_57 (lv_at hl 0 rfl) ?_
  refine lv_lsub hx hb dX8_pays_59 ?_
  refine lv_lsub hx hb dX8_pays_60 ?_
  obtain ⟨k15, hf⟩ := xk_of hf
  refine x_last (n := 304) (f := (vp_updL uF1 v8.toNatClampNeg ((uF1 v8.toNatClampNeg) - v6))) (σ' := (wA, wT, wG, wM, (uF0, (vp_updL (vp_updL uF1 v8.toNatClampNeg ((uF1 v8.toNatClampNeg) - v6)) v12.toNatClampNeg (((vp_updL uF1 v8.toNatClampNeg ((uF1 v8.toNatClampNeg) - v6)) v12.toNatClampNeg) - (x3 - v6))), uF2, uF3, uF4, uF5, uF6, uF7, uF8, uF9, uF10, uF11, uF12, uF13, uF14, uF15, uF16, uF17, uF18), wO)) hc hw co_246 k15 so_F_1 dX8_pays_61 (fun H locs hw => ?_)
  refine lv_aload_n hx hb dX8_pays_62 rfl (lv_at hl 2 rfl) ?_
  refine lv_iload hx hb dX8_pays_63 (lv_at hl 1 rfl) ?_
  obtain ⟨v16, h17, hf⟩ := xb1_of hf
  refine x_calllV (As := [.int v1]) (rest := []) (σ' := (wA, wT, wG, wM, (uF0, (vp_updL (vp_updL uF1 v8.toNatClampNeg ((uF1 v8.toNatClampNeg) - v6)) v12.toNatClampNeg (((vp_updL uF1 v8.toNatClampNeg ((uF1 v8.toNatClampNeg) - v6)) v12.toNatClampNeg) - (x3 - v6))), uF2, uF3, uF4, uF5, uF6, uF7, uF8, uF9, uF10, uF11, uF12, uF13, uF14, uF15, uF16, uF17, uF18), wO)) hc hw hl.1 (m_X8_owing h17) kX8_146 co_245 rfl rfl ⟨rfl, rfl⟩ ⟨Nat.le_of_ble_eq_true rfl, Nat.le_of_ble_eq_true rfl⟩ ⟨Nat.zero_le _, Nat.zero_le _⟩ (Nat.le_of_ble_eq_true rfl) dX8_pays_65 (fun H locs hw => ?_)
  refine lv_lconst (v := 0) hx hb dX8_pays_68 (by decide) ?_
  refine x_lcmp_ne (tgt := 130) hx hb dX8_pays_69 dX8_pays_70 (by decide) (fun c18 => ?_) (fun c18 => ?_)
  · have hf := xif_f c18 hf
    cases hf
    exact K _ _ _ _ dX8_pays_130 hw
  · have hf := xif_t c18 hf
    refine lv_aload_n hx hb dX8_pays_73 rfl (lv_at hl 2 rfl) ?_
    refine lv_iload hx hb dX8_pays_74 (lv_at hl 1 rfl) ?_
    refine lv_iconst (v := 0) hx hb dX8_pays_76 (by decide) ?_
    obtain ⟨v19, h20, hf⟩ := xb1_of hf
    refine x_calliV (As := [.int v1, .int 0]) (rest := []) (σ' := (wA, wT, wG, wM, (uF0, (vp_updL (vp_updL uF1 v8.toNatClampNeg ((uF1 v8.toNatClampNeg) - v6)) v12.toNatClampNeg (((vp_updL uF1 v8.toNatClampNeg ((uF1 v8.toNatClampNeg) - v6)) v12.toNatClampNeg) - (x3 - v6))), uF2, uF3, uF4, uF5, uF6, uF7, uF8, uF9, uF10, uF11, uF12, uF13, uF14, uF15, uF16, uF17, uF18), wO)) hc hw hl.1 (m_X8_debtAt h20) kX8_140 co_245 rfl rfl ⟨rfl, rfl⟩ ⟨Nat.le_of_ble_eq_true rfl, Nat.le_of_ble_eq_true rfl⟩ ⟨Nat.zero_le _, Nat.zero_le _⟩ (Nat.le_of_ble_eq_true rfl) dX8_pays_77 (fun H locs hw => ?_)
    refine lv_istore (lv' := [(8, .int v19), (6, .long v6), (5, .int v1), (0, .ref (xAd κ 245)), (1, .int x1), (2, .int x2), (3, .long x3)]) hx hb dX8_pays_80 hl (by decide) rfl (fun ls hl => ?_)
    exact l_X8_pays_82 hc K fu _ _ _ _ _ hf hw (lv_sub hl [3, 0] rfl)
def f_X8_allOwed_5 (fu : Nat) (uF1 : xF64) : Nat → (Int32) → (Int32) → (Int64) → (Int32) → Option Int64
  | 0, _, _, _, _ => none
  | n + 1, x1, x2, x3, x5 => xb1 (f_X8_debts uF1) fun v1 => (if v1 ≤ x5 then (some x3) else (if x2 = 0 then (xb1 (f_X8_debtAt x5 0) fun v5 => (xk (xin v5 304) (if (uF1 v5.toNatClampNeg) = x1.toInt64 then (xb1 (f_X8_owing x5 uF1) fun v9 => (f_X8_allOwed_5 fu uF1 n x1 x2 (x3 + v9) (x5 + 1))) else (f_X8_allOwed_5 fu uF1 n x1 x2 (x3 + 0) (x5 + 1))))) else (xb1 (f_X8_debtAt x5 1) fun v11 => (xk (xin v11 304) (if (uF1 v11.toNatClampNeg) = x1.toInt64 then (xb1 (f_X8_owing x5 uF1) fun v15 => (f_X8_allOwed_5 fu uF1 n x1 x2 (x3 + v15) (x5 + 1))) else (f_X8_allOwed_5 fu uF1 n x1 x2 (x3 + 0) (x5 + 1)))))))
def f_X8_allOwed (fu : Nat) (x1 : Int32) (x2 : Int32) (uF1 : xF64) : Option Int64 :=
  f_X8_allOwed_5 fu uF1 fu x1 x2 0 0
set_option maxHeartbeats 4000000 in
set_option maxRecDepth 100000 in
theorem l_X8_allOwed_5 {l : Launch} {κ : xKt} {wA : Nat → sAcc} {wT : sTxt} {wG : sRng} {wM : sMai} {wO : sOut} {fu : Nat} {uF0 : Int32} {uF1 : xF64} {uF2 : xF64} {uF3 : xF64} {uF4 : xF64} {uF5 : Int32} {uF6 : Int32} {uF7 : Int32} {uF8 : xF32} {uF9 : Int32} {uF10 : Int32} {uF11 : Int64} {uF12 : xF32} {uF13 : Int32} {uF14 : Int32} {uF15 : Int32} {uF16 : xF32} {uF17 : xF32} {uF18 : Int32} {A : Nat → Prop} {p : Program} {e : Env} {s : State} {m : MethodId} {args : Array Value} {below : List Frame} {meth : Method} {c : Code} {Q : State → Prop} {rr : Int64}
    (hc : xC κ A p s m args meth c cX8_allOwed RX8 6 (some .long))
    (K : ∀ (pc : Nat) (ls : Array Slot) (H : Heap) (locs : List Loc), decode cX8_allOwed pc = .ok (.lreturn, 1) → xW κ A s (wA, wT, wG, wM, (uF0, uF1, uF2, uF3, uF4, uF5, uF6, uF7, uF8, uF9, uF10, uF11, uF12, uF13, uF14, uF15, uF16, uF17, uF18), wO) H locs → W p l e (xR 2 0 0) s m args below meth c H locs 0 0 Q (F0 m pc ls [.long rr])) :
    ∀ (n : Nat) (x1 : Int32) (x2 : Int32) (x3 : Int64) (x5 : Int32) (H : Heap) (locs : List Loc) (ls : Array Slot), f_X8_allOwed_5 fu uF1 n x1 x2 x3 x5 = some rr → xW κ A s (wA, wT, wG, wM, (uF0, uF1, uF2, uF3, uF4, uF5, uF6, uF7, uF8, uF9, uF10, uF11, uF12, uF13, uF14, uF15, uF16, uF17, uF18), wO) H locs → lv_has ls 6 [(0, .ref (xAd κ 245)), (1, .int x1), (2, .int x2), (3, .long x3), (5, .int x5)] → W p l e (xR 2 0 0) s m args below meth c H locs 0 0 Q (F0 m 5 ls []) := by
  have hx := hc.1.1
  have hb := hc.1.2.1
  intro n
  induction n with
  | zero =>
    intro x1 x2 x3 x5 H locs ls hf
    rw [f_X8_allOwed_5] at hf
    cases hf
  | succ n hi =>
    intro x1 x2 x3 x5 H locs ls hf hw hl
    rw [f_X8_allOwed_5] at hf
    refine lv_iload hx hb dX8_allOwed_5 (lv_at hl 4 rfl) ?_
    refine lv_aload_n hx hb dX8_allOwed_7 rfl (lv_at hl 0 rfl) ?_
    obtain ⟨v1, h2, hf⟩ := xb1_of hf
    refine x_calliV (As := []) (rest := [.int x5]) (σ' := (wA, wT, wG, wM, (uF0, uF1, uF2, uF3, uF4, uF5, uF6, uF7, uF8, uF9, uF10, uF11, uF12, uF13, uF14, uF15, uF16, uF17, uF18), wO)) hc hw hl.1 (m_X8_debts h2) kX8_70 co_245 rfl rfl ⟨rfl, rfl⟩ ⟨Nat.le_of_ble_eq_true rfl, Nat.le_of_ble_eq_true rfl⟩ ⟨Nat.zero_le _, Nat.zero_le _⟩ (Nat.le_of_ble_eq_true rfl) dX8_allOwed_8 (fun H locs hw => ?_)
    refine lv_icmp_ge (tgt := 59) hx hb dX8_allOwed_11 (by decide) (fun c3 => ?_) (fun c3 => ?_)
    · have hf := xif_t c3 hf
      refine lv_lload_n hx hb dX8_allOwed_59 rfl (lv_at hl 3 rfl) ?_
      cases hf
      exact K _ _ _ _ dX8_allOwed_60 hw
    · have hf := xif_f c3 hf
      refine lv_lload_n hx hb dX8_allOwed_14 rfl (lv_at hl 3 rfl) ?_
      refine lv_aload_n hx hb dX8_allOwed_15 rfl (lv_at hl 0 rfl) ?_
      refine x_get (v := .ref (xAd κ 246)) hc hw co_245 fX8_7 rfl dX8_allOwed_16 ?_
      refine lv_aload_n hx hb dX8_allOwed_19 rfl (lv_at hl 0 rfl) ?_
      refine lv_iload hx hb dX8_allOwed_20 (lv_at hl 4 rfl) ?_
      refine lv_iload_n hx hb dX8_allOwed_22 rfl (lv_at hl 2 rfl) ?_
      refine lv_if_eq (tgt := 30) hx hb dX8_allOwed_23 (by decide) (fun c4 => ?_) (fun c4 => ?_)
      · have hf := xif_t c4 hf
        refine lv_iconst (v := 0) hx hb dX8_allOwed_30 (by decide) ?_
        obtain ⟨v5, h6, hf⟩ := xb1_of hf
        refine x_calliV (As := [.int x5, .int 0]) (rest := [.ref (xAd κ 246), .long x3]) (σ' := (wA, wT, wG, wM, (uF0, uF1, uF2, uF3, uF4, uF5, uF6, uF7, uF8, uF9, uF10, uF11, uF12, uF13, uF14, uF15, uF16, uF17, uF18), wO)) hc hw hl.1 (m_X8_debtAt h6) kX8_140 co_245 rfl rfl ⟨rfl, rfl⟩ ⟨Nat.le_of_ble_eq_true rfl, Nat.le_of_ble_eq_true rfl⟩ ⟨Nat.zero_le _, Nat.zero_le _⟩ (Nat.le_of_ble_eq_true rfl) dX8_allOwed_31 (fun H locs hw => ?_)
        obtain ⟨k7, hf⟩ := xk_of hf
        refine x_lald (n := 304) (f := uF1) hc hw co_246 k7 dX8_allOwed_34 ?_
        refine lv_iload_n hx hb dX8_allOwed_35 rfl (lv_at hl 1 rfl) ?_
        refine lv_i2l (v := x1.toInt64) hx hb dX8_allOwed_36 rfl ?_
        refine x_lcmp_ne (tgt := 50) hx hb dX8_allOwed_37 dX8_allOwed_38 (by decide) (fun c8 => ?_) (fun c8 => ?_)
        · have hf := xif_f c8 hf
          refine lv_lconst (v := 0) hx hb dX8_allOwed_50 (by decide) ?_
          refine lv_ladd hx hb dX8_allOwed_51 ?_
          refine lv_lstore_n (lv' := [(3, .long (x3 + 0)), (0, .ref (xAd κ 245)), (1, .int x1), (2, .int x2), (5, .int x5)]) hx hb dX8_allOwed_52 rfl hl (by decide) rfl (fun ls hl => ?_)
          refine lv_iinc (v := (x5 + 1)) (lv' := [(5, .int (x5 + 1)), (3, .long (x3 + 0)), (0, .ref (xAd κ 245)), (1, .int x1), (2, .int x2)]) hx hb dX8_allOwed_53 hl (k := 4) rfl rfl (by decide) rfl (fun ls hl => ?_)
          refine lv_goto (tgt := 5) hx hb dX8_allOwed_56 (by decide) ?_
          exact hi _ _ _ _ _ _ _ hf hw (lv_sub hl [2, 3, 4, 1, 0] rfl)
        · have hf := xif_t c8 hf
          refine lv_aload_n hx hb dX8_allOwed_41 rfl (lv_at hl 0 rfl) ?_
          refine lv_iload hx hb dX8_allOwed_42 (lv_at hl 4 rfl) ?_
          obtain ⟨v9, h10, hf⟩ := xb1_of hf
          refine x_calllV (As := [.int x5]) (rest := [.long x3]) (σ' := (wA, wT, wG, wM, (uF0, uF1, uF2, uF3, uF4, uF5, uF6, uF7, uF8, uF9, uF10, uF11, uF12, uF13, uF14, uF15, uF16, uF17, uF18), wO)) hc hw hl.1 (m_X8_owing h10) kX8_146 co_245 rfl rfl ⟨rfl, rfl⟩ ⟨Nat.le_of_ble_eq_true rfl, Nat.le_of_ble_eq_true rfl⟩ ⟨Nat.zero_le _, Nat.zero_le _⟩ (Nat.le_of_ble_eq_true rfl) dX8_allOwed_44 (fun H locs hw => ?_)
          refine lv_goto (tgt := 51) hx hb dX8_allOwed_47 (by decide) ?_
          refine lv_ladd hx hb dX8_allOwed_51 ?_
          refine lv_lstore_n (lv' := [(3, .long (x3 + v9)), (0, .ref (xAd κ 245)), (1, .int x1), (2, .int x2), (5, .int x5)]) hx hb dX8_allOwed_52 rfl hl (by decide) rfl (fun ls hl => ?_)
          refine lv_iinc (v := (x5 + 1)) (lv' := [(5, .int (x5 + 1)), (3, .long (x3 + v9)), (0, .ref (xAd κ 245)), (1, .int x1), (2, .int x2)]) hx hb dX8_allOwed_53 hl (k := 4) rfl rfl (by decide) rfl (fun ls hl => ?_)
          refine lv_goto (tgt := 5) hx hb dX8_allOwed_56 (by decide) ?_
          exact hi _ _ _ _ _ _ _ hf hw (lv_sub hl [2, 3, 4, 1, 0] rfl)
      · have hf := xif_f c4 hf
        refine lv_iconst (v := 1) hx hb dX8_allOwed_26 (by decide) ?_
        refine lv_goto (tgt := 31) hx hb dX8_allOwed_27 (by decide) ?_
        obtain ⟨v11, h12, hf⟩ := xb1_of hf
        refine x_calliV (As := [.int x5, .int 1]) (rest := [.ref (xAd κ 246), .long x3]) (σ' := (wA, wT, wG, wM, (uF0, uF1, uF2, uF3, uF4, uF5, uF6, uF7, uF8, uF9, uF10, uF11, uF12, uF13, uF14, uF15, uF16, uF17, uF18), wO)) hc hw hl.1 (m_X8_debtAt h12) kX8_140 co_245 rfl rfl ⟨rfl, rfl⟩ ⟨Nat.le_of_ble_eq_true rfl, Nat.le_of_ble_eq_true rfl⟩ ⟨Nat.zero_le _, Nat.zero_le _⟩ (Nat.le_of_ble_eq_true rfl) dX8_allOwed_31 (fun H locs hw => ?_)
        obtain ⟨k13, hf⟩ := xk_of hf
        refine x_lald (n := 304) (f := uF1) hc hw co_246 k13 dX8_allOwed_34 ?_
        refine lv_iload_n hx hb dX8_allOwed_35 rfl (lv_at hl 1 rfl) ?_
        refine lv_i2l (v := x1.toInt64) hx hb dX8_allOwed_36 rfl ?_
        refine x_lcmp_ne (tgt := 50) hx hb dX8_allOwed_37 dX8_allOwed_38 (by decide) (fun c14 => ?_) (fun c14 => ?_)
        · have hf := xif_f c14 hf
          refine lv_lconst (v := 0) hx hb dX8_allOwed_50 (by decide) ?_
          refine lv_ladd hx hb dX8_allOwed_51 ?_
          refine lv_lstore_n (lv' := [(3, .long (x3 + 0)), (0, .ref (xAd κ 245)), (1, .int x1), (2, .int x2), (5, .int x5)]) hx hb dX8_allOwed_52 rfl hl (by decide) rfl (fun ls hl => ?_)
          refine lv_iinc (v := (x5 + 1)) (lv' := [(5, .int (x5 + 1)), (3, .long (x3 + 0)), (0, .ref (xAd κ 245)), (1, .int x1), (2, .int x2)]) hx hb dX8_allOwed_53 hl (k := 4) rfl rfl (by decide) rfl (fun ls hl => ?_)
          refine lv_goto (tgt := 5) hx hb dX8_allOwed_56 (by decide) ?_
          exact hi _ _ _ _ _ _ _ hf hw (lv_sub hl [2, 3, 4, 1, 0] rfl)
        · have hf := xif_t c14 hf
          refine lv_aload_n hx hb dX8_allOwed_41 rfl (lv_at hl 0 rfl) ?_
          refine lv_iload hx hb dX8_allOwed_42 (lv_at hl 4 rfl) ?_
          obtain ⟨v15, h16, hf⟩ := xb1_of hf
          refine x_calllV (As := [.int x5]) (rest := [.long x3]) (σ' := (wA, wT, wG, wM, (uF0, uF1, uF2, uF3, uF4, uF5, uF6, uF7, uF8, uF9, uF10, uF11, uF12, uF13, uF14, uF15, uF16, uF17, uF18), wO)) hc hw hl.1 (m_X8_owing h16) kX8_146 co_245 rfl rfl ⟨rfl, rfl⟩ ⟨Nat.le_of_ble_eq_true rfl, Nat.le_of_ble_eq_true rfl⟩ ⟨Nat.zero_le _, Nat.zero_le _⟩ (Nat.le_of_ble_eq_true rfl) dX8_allOwed_44 (fun H locs hw => ?_)
          refine lv_goto (tgt := 51) hx hb dX8_allOwed_47 (by decide) ?_
          refine lv_ladd hx hb dX8_allOwed_51 ?_
          refine lv_lstore_n (lv' := [(3, .long (x3 + v15)), (0, .ref (xAd κ 245)), (1, .int x1), (2, .int x2), (5, .int x5)]) hx hb dX8_allOwed_52 rfl hl (by decide) rfl (fun ls hl => ?_)
          refine lv_iinc (v := (x5 + 1)) (lv' := [(5, .int (x5 + 1)), (3, .long (x3 + v15)), (0, .ref (xAd κ 245)), (1, .int x1), (2, .int x2)]) hx hb dX8_allOwed_53 hl (k := 4) rfl rfl (by decide) rfl (fun ls hl => ?_)
          refine lv_goto (tgt := 5) hx hb dX8_allOwed_56 (by decide) ?_
          exact hi _ _ _ _ _ _ _ hf hw (lv_sub hl [2, 3, 4, 1, 0] rfl)
set_option maxHeartbeats 4000000 in
set_option maxRecDepth 100000 in
theorem m_X8_allOwed {l : Launch} {κ : xKt} {wA : Nat → sAcc} {wT : sTxt} {wG : sRng} {wM : sMai} {wO : sOut} {fu : Nat} {x1 : Int32} {x2 : Int32} {uF0 : Int32} {uF1 : xF64} {uF2 : xF64} {uF3 : xF64} {uF4 : xF64} {uF5 : Int32} {uF6 : Int32} {uF7 : Int32} {uF8 : xF32} {uF9 : Int32} {uF10 : Int32} {uF11 : Int64} {uF12 : xF32} {uF13 : Int32} {uF14 : Int32} {uF15 : Int32} {uF16 : xF32} {uF17 : xF32} {uF18 : Int32} {rr : Int64} (hf : f_X8_allOwed fu x1 x2 uF1 = some rr) : xMl l κ yX8_allOwed cX8_allOwed 6 (some .long) (xR 2 0 0) [.ref (xAd κ 245), .int x1, .int x2] (wA, wT, wG, wM, (uF0, uF1, uF2, uF3, uF4, uF5, uF6, uF7, uF8, uF9, uF10, uF11, uF12, uF13, uF14, uF15, uF16, uF17, uF18), wO) (wA, wT, wG, wM, (uF0, uF1, uF2, uF3, uF4, uF5, uF6, uF7, uF8, uF9, uF10, uF11, uF12, uF13, uF14, uF15, uF16, uF17, uF18), wO) rr := by
  unfold f_X8_allOwed at hf
  refine xMl_of pn_X8 (Nat.le_of_ble_eq_true rfl) ⟨rfl, rfl⟩ ?_
  intro A p e s m args below meth c ls Q hc hw hl K
  have hc : xC κ A p s m args meth c cX8_allOwed RX8 6 (some .long) := hc
  have hx := hc.1.1
  have hb := hc.1.2.1
  have hl : lv_has ls 6 [(0, .ref (xAd κ 245)), (1, .int x1), (2, .int x2)] := hl
  refine lv_lconst (v := 0) hx hb dX8_allOwed_0 (by decide) ?_
  refine lv_lstore_n (lv' := [(3, .long 0), (0, .ref (xAd κ 245)), (1, .int x1), (2, .int x2)]) hx hb dX8_allOwed_1 rfl hl (by decide) rfl (fun ls hl => ?_)
  refine lv_iconst (v := 0) hx hb dX8_allOwed_2 (by decide) ?_
  refine lv_istore (lv' := [(5, .int 0), (3, .long 0), (0, .ref (xAd κ 245)), (1, .int x1), (2, .int x2)]) hx hb dX8_allOwed_3 hl (by decide) rfl (fun ls hl => ?_)
  exact l_X8_allOwed_5 hc K fu _ _ _ _ _ _ _ hf hw (lv_sub hl [2, 3, 4, 1, 0] rfl)
def f_X8_party (fu : Nat) (x1 : Int32) (x2 : Int32) (uF0 : Int32) (uF1 : xF64) : Option (Int64 × Int32) :=
  xb1 (f_X8_isParty x1 uF1) fun v1 => (if v1 = 0 then (xb2 (f_X8_failsLong 1 0) fun v26 uF0_27 => (some (v26, uF0_27))) else (if x2 = 6 then (xb1 (f_X8_held x1 uF1) fun v5 => (some (v5, 0))) else (if x2 = 7 then (xb1 (f_X8_shareOf fu x1 uF1) fun v8 => (some (v8, 0))) else (if x2 = 8 then (xb1 (f_X8_shortBy x1 uF1) fun v11 => (some (v11, 0))) else (if x2 = 9 then (xb1 (f_X8_allOwed fu x1 0 uF1) fun v14 => (some (v14, 0))) else (if x2 = 10 then (xb1 (f_X8_allOwed fu x1 1 uF1) fun v17 => (some (v17, 0))) else (xb1 (f_X8_in x2 0 5) fun v19 => (if v19 = 0 then (xb2 (f_X8_failsLong 2 0) fun v22 uF0_23 => (some (v22, uF0_23))) else (xk (xin ((14 + (6 * x2)) + x1) 304) (some ((uF1 ((14 + (6 * x2)) + x1).toNatClampNeg), 0)))))))))))
set_option maxHeartbeats 4000000 in
set_option maxRecDepth 100000 in
theorem m_X8_party {l : Launch} {κ : xKt} {wA : Nat → sAcc} {wT : sTxt} {wG : sRng} {wM : sMai} {wO : sOut} {fu : Nat} {x1 : Int32} {x2 : Int32} {uF0 : Int32} {uF1 : xF64} {uF2 : xF64} {uF3 : xF64} {uF4 : xF64} {uF5 : Int32} {uF6 : Int32} {uF7 : Int32} {uF8 : xF32} {uF9 : Int32} {uF10 : Int32} {uF11 : Int64} {uF12 : xF32} {uF13 : Int32} {uF14 : Int32} {uF15 : Int32} {uF16 : xF32} {uF17 : xF32} {uF18 : Int32} {rr : Int64} {yF0 : Int32} (hf : f_X8_party fu x1 x2 uF0 uF1 = some (rr, yF0)) : xMl l κ yX8_party cX8_party 3 (some .long) (xR 7 0 0) [.ref (xAd κ 245), .int x1, .int x2] (wA, wT, wG, wM, (uF0, uF1, uF2, uF3, uF4, uF5, uF6, uF7, uF8, uF9, uF10, uF11, uF12, uF13, uF14, uF15, uF16, uF17, uF18), wO) (wA, wT, wG, wM, (yF0, uF1, uF2, uF3, uF4, uF5, uF6, uF7, uF8, uF9, uF10, uF11, uF12, uF13, uF14, uF15, uF16, uF17, uF18), wO) rr := by
  unfold f_X8_party at hf
  refine xMl_of pn_X8 (Nat.le_of_ble_eq_true rfl) ⟨rfl, rfl⟩ ?_
  intro A p e s m args below meth c ls Q hc hw hl K
  have hc : xC κ A p s m args meth c cX8_party RX8 3 (some .long) := hc
  have hx := hc.1.1
  have hb := hc.1.2.1
  have hl : lv_has ls 3 [(0, .ref (xAd κ 245)), (1, .int x1), (2, .int x2)] := hl
  refine lv_aload_n hx hb dX8_party_0 rfl (lv_at hl 0 rfl) ?_
  refine lv_iconst (v := 0) hx hb dX8_party_1 (by decide) ?_
  refine x_put (σ' := (wA, wT, wG, wM, (0, uF1, uF2, uF3, uF4, uF5, uF6, uF7, uF8, uF9, uF10, uF11, uF12, uF13, uF14, uF15, uF16, uF17, uF18), wO)) hc hw co_245 fX8_42 rfl rfl (Nat.le_of_ble_eq_true rfl) so_F_0 dX8_party_2 (fun H locs hw => ?_)
  refine lv_aload_n hx hb dX8_party_5 rfl (lv_at hl 0 rfl) ?_
  refine lv_iload_n hx hb dX8_party_6 rfl (lv_at hl 1 rfl) ?_
  obtain ⟨v1, h2, hf⟩ := xb1_of hf
  refine x_calliV (As := [.int x1]) (rest := []) (σ' := (wA, wT, wG, wM, (0, uF1, uF2, uF3, uF4, uF5, uF6, uF7, uF8, uF9, uF10, uF11, uF12, uF13, uF14, uF15, uF16, uF17, uF18), wO)) hc hw hl.1 (m_X8_isParty h2) kX8_149 co_245 rfl rfl ⟨rfl, rfl⟩ ⟨Nat.le_of_ble_eq_true rfl, Nat.le_of_ble_eq_true rfl⟩ ⟨Nat.zero_le _, Nat.zero_le _⟩ (Nat.le_of_ble_eq_true rfl) dX8_party_7 (fun H locs hw => ?_)
  refine lv_if_ne (tgt := 19) hx hb dX8_party_10 (by decide) (fun c3 => ?_) (fun c3 => ?_)
  · have hf := xif_f c3 hf
    refine lv_iload_n hx hb dX8_party_19 rfl (lv_at hl 2 rfl) ?_
    by_cases c4 : x2 = 6
    · have hf := xif_t c4 hf
      refine x_tabI (k := 6) (off := 36) (tgt := 56) hx hb dX8_party_20 c4 (by decide) (by decide) (by decide) ?_
      refine lv_aload_n hx hb dX8_party_56 rfl (lv_at hl 0 rfl) ?_
      refine lv_iload_n hx hb dX8_party_57 rfl (lv_at hl 1 rfl) ?_
      obtain ⟨v5, h6, hf⟩ := xb1_of hf
      refine x_calllV (As := [.int x1]) (rest := []) (σ' := (wA, wT, wG, wM, (0, uF1, uF2, uF3, uF4, uF5, uF6, uF7, uF8, uF9, uF10, uF11, uF12, uF13, uF14, uF15, uF16, uF17, uF18), wO)) hc hw hl.1 (m_X8_held h6) kX8_156 co_245 rfl rfl ⟨rfl, rfl⟩ ⟨Nat.le_of_ble_eq_true rfl, Nat.le_of_ble_eq_true rfl⟩ ⟨Nat.zero_le _, Nat.zero_le _⟩ (Nat.le_of_ble_eq_true rfl) dX8_party_58 (fun H locs hw => ?_)
      cases hf
      exact K _ _ _ _ dX8_party_61 hw
    have hf := xif_f c4 hf
    by_cases c7 : x2 = 7
    · have hf := xif_t c7 hf
      refine x_tabI (k := 7) (off := 42) (tgt := 62) hx hb dX8_party_20 c7 (by decide) (by decide) (by decide) ?_
      refine lv_aload_n hx hb dX8_party_62 rfl (lv_at hl 0 rfl) ?_
      refine lv_iload_n hx hb dX8_party_63 rfl (lv_at hl 1 rfl) ?_
      obtain ⟨v8, h9, hf⟩ := xb1_of hf
      refine x_calllV (As := [.int x1]) (rest := []) (σ' := (wA, wT, wG, wM, (0, uF1, uF2, uF3, uF4, uF5, uF6, uF7, uF8, uF9, uF10, uF11, uF12, uF13, uF14, uF15, uF16, uF17, uF18), wO)) hc hw hl.1 (m_X8_shareOf h9) kX8_159 co_245 rfl rfl ⟨rfl, rfl⟩ ⟨Nat.le_of_ble_eq_true rfl, Nat.le_of_ble_eq_true rfl⟩ ⟨Nat.zero_le _, Nat.zero_le _⟩ (Nat.le_of_ble_eq_true rfl) dX8_party_64 (fun H locs hw => ?_)
      cases hf
      exact K _ _ _ _ dX8_party_67 hw
    have hf := xif_f c7 hf
    by_cases c10 : x2 = 8
    · have hf := xif_t c10 hf
      refine x_tabI (k := 8) (off := 48) (tgt := 68) hx hb dX8_party_20 c10 (by decide) (by decide) (by decide) ?_
      refine lv_aload_n hx hb dX8_party_68 rfl (lv_at hl 0 rfl) ?_
      refine lv_iload_n hx hb dX8_party_69 rfl (lv_at hl 1 rfl) ?_
      obtain ⟨v11, h12, hf⟩ := xb1_of hf
      refine x_calllV (As := [.int x1]) (rest := []) (σ' := (wA, wT, wG, wM, (0, uF1, uF2, uF3, uF4, uF5, uF6, uF7, uF8, uF9, uF10, uF11, uF12, uF13, uF14, uF15, uF16, uF17, uF18), wO)) hc hw hl.1 (m_X8_shortBy h12) kX8_162 co_245 rfl rfl ⟨rfl, rfl⟩ ⟨Nat.le_of_ble_eq_true rfl, Nat.le_of_ble_eq_true rfl⟩ ⟨Nat.zero_le _, Nat.zero_le _⟩ (Nat.le_of_ble_eq_true rfl) dX8_party_70 (fun H locs hw => ?_)
      cases hf
      exact K _ _ _ _ dX8_party_73 hw
    have hf := xif_f c10 hf
    by_cases c13 : x2 = 9
    · have hf := xif_t c13 hf
      refine x_tabI (k := 9) (off := 54) (tgt := 74) hx hb dX8_party_20 c13 (by decide) (by decide) (by decide) ?_
      refine lv_aload_n hx hb dX8_party_74 rfl (lv_at hl 0 rfl) ?_
      refine lv_iload_n hx hb dX8_party_75 rfl (lv_at hl 1 rfl) ?_
      refine lv_iconst (v := 0) hx hb dX8_party_76 (by decide) ?_
      obtain ⟨v14, h15, hf⟩ := xb1_of hf
      refine x_calllV (As := [.int x1, .int 0]) (rest := []) (σ' := (wA, wT, wG, wM, (0, uF1, uF2, uF3, uF4, uF5, uF6, uF7, uF8, uF9, uF10, uF11, uF12, uF13, uF14, uF15, uF16, uF17, uF18), wO)) hc hw hl.1 (m_X8_allOwed h15) kX8_165 co_245 rfl rfl ⟨rfl, rfl⟩ ⟨Nat.le_of_ble_eq_true rfl, Nat.le_of_ble_eq_true rfl⟩ ⟨Nat.zero_le _, Nat.zero_le _⟩ (Nat.le_of_ble_eq_true rfl) dX8_party_77 (fun H locs hw => ?_)
      cases hf
      exact K _ _ _ _ dX8_party_80 hw
    have hf := xif_f c13 hf
    by_cases c16 : x2 = 10
    · have hf := xif_t c16 hf
      refine x_tabI (k := 10) (off := 61) (tgt := 81) hx hb dX8_party_20 c16 (by decide) (by decide) (by decide) ?_
      refine lv_aload_n hx hb dX8_party_81 rfl (lv_at hl 0 rfl) ?_
      refine lv_iload_n hx hb dX8_party_82 rfl (lv_at hl 1 rfl) ?_
      refine lv_iconst (v := 1) hx hb dX8_party_83 (by decide) ?_
      obtain ⟨v17, h18, hf⟩ := xb1_of hf
      refine x_calllV (As := [.int x1, .int 1]) (rest := []) (σ' := (wA, wT, wG, wM, (0, uF1, uF2, uF3, uF4, uF5, uF6, uF7, uF8, uF9, uF10, uF11, uF12, uF13, uF14, uF15, uF16, uF17, uF18), wO)) hc hw hl.1 (m_X8_allOwed h18) kX8_165 co_245 rfl rfl ⟨rfl, rfl⟩ ⟨Nat.le_of_ble_eq_true rfl, Nat.le_of_ble_eq_true rfl⟩ ⟨Nat.zero_le _, Nat.zero_le _⟩ (Nat.le_of_ble_eq_true rfl) dX8_party_84 (fun H locs hw => ?_)
      cases hf
      exact K _ _ _ _ dX8_party_87 hw
    have hf := xif_f c16 hf
    have c4 := x_neT (z := 6) c4 (by decide)
    have c7 := x_neT (z := 7) c7 (by decide)
    have c10 := x_neT (z := 8) c10 (by decide)
    have c13 := x_neT (z := 9) c13 (by decide)
    have c16 := x_neT (z := 10) c16 (by decide)
    refine x_tabD (tgt := 88) hx hb dX8_party_20 (by omega) (by decide) ?_
    refine lv_iload_n hx hb dX8_party_88 rfl (lv_at hl 2 rfl) ?_
    refine lv_iconst (v := 0) hx hb dX8_party_89 (by decide) ?_
    refine lv_iconst (v := 5) hx hb dX8_party_90 (by decide) ?_
    obtain ⟨v19, h20, hf⟩ := xb1_of hf
    refine x_calliS (As := [.int x2, .int 0, .int 5]) (rest := []) (σ' := (wA, wT, wG, wM, (0, uF1, uF2, uF3, uF4, uF5, uF6, uF7, uF8, uF9, uF10, uF11, uF12, uF13, uF14, uF15, uF16, uF17, uF18), wO)) hc hw hl.1 (m_X8_in h20) kX8_63 rfl rfl ⟨rfl, rfl⟩ ⟨Nat.le_of_ble_eq_true rfl, Nat.le_of_ble_eq_true rfl⟩ ⟨Nat.zero_le _, Nat.zero_le _⟩ (Nat.le_of_ble_eq_true rfl) dX8_party_91 (fun H locs hw => ?_)
    refine lv_if_eq (tgt := 114) hx hb dX8_party_94 (by decide) (fun c21 => ?_) (fun c21 => ?_)
    · have hf := xif_t c21 hf
      refine lv_aload_n hx hb dX8_party_114 rfl (lv_at hl 0 rfl) ?_
      refine lv_iconst (v := 2) hx hb dX8_party_115 (by decide) ?_
      obtain ⟨v22, uF0_23, h24, hf⟩ := xb2_of hf
      refine x_calllV (As := [.int 2]) (rest := []) (σ' := (wA, wT, wG, wM, (uF0_23, uF1, uF2, uF3, uF4, uF5, uF6, uF7, uF8, uF9, uF10, uF11, uF12, uF13, uF14, uF15, uF16, uF17, uF18), wO)) hc hw hl.1 (m_X8_failsLong h24) kX8_153 co_245 rfl rfl ⟨rfl, rfl⟩ ⟨Nat.le_of_ble_eq_true rfl, Nat.le_of_ble_eq_true rfl⟩ ⟨Nat.zero_le _, Nat.zero_le _⟩ (Nat.le_of_ble_eq_true rfl) dX8_party_116 (fun H locs hw => ?_)
      cases hf
      exact K _ _ _ _ dX8_party_119 hw
    · have hf := xif_f c21 hf
      refine lv_aload_n hx hb dX8_party_97 rfl (lv_at hl 0 rfl) ?_
      refine x_get (v := .ref (xAd κ 246)) hc hw co_245 fX8_7 rfl dX8_party_98 ?_
      refine lv_bipush (v := 14) hx hb dX8_party_101 (by decide) ?_
      refine lv_bipush (v := 6) hx hb dX8_party_103 (by decide) ?_
      refine lv_iload_n hx hb dX8_party_105 rfl (lv_at hl 2 rfl) ?_
      refine lv_imul hx hb dX8_party_106 ?_
      refine lv_iadd hx hb dX8_party_107 ?_
      refine lv_iload_n hx hb dX8_party_108 rfl (lv_at hl 1 rfl) ?_
      refine lv_iadd hx hb dX8_party_109 ?_
      obtain ⟨k25, hf⟩ := xk_of hf
      refine x_lald (n := 304) (f := uF1) hc hw co_246 k25 dX8_party_110 ?_
      refine lv_goto (tgt := 119) hx hb dX8_party_111 (by decide) ?_
      cases hf
      exact K _ _ _ _ dX8_party_119 hw
  · have hf := xif_t c3 hf
    refine lv_aload_n hx hb dX8_party_13 rfl (lv_at hl 0 rfl) ?_
    refine lv_iconst (v := 1) hx hb dX8_party_14 (by decide) ?_
    obtain ⟨v26, uF0_27, h28, hf⟩ := xb2_of hf
    refine x_calllV (As := [.int 1]) (rest := []) (σ' := (wA, wT, wG, wM, (uF0_27, uF1, uF2, uF3, uF4, uF5, uF6, uF7, uF8, uF9, uF10, uF11, uF12, uF13, uF14, uF15, uF16, uF17, uF18), wO)) hc hw hl.1 (m_X8_failsLong h28) kX8_153 co_245 rfl rfl ⟨rfl, rfl⟩ ⟨Nat.le_of_ble_eq_true rfl, Nat.le_of_ble_eq_true rfl⟩ ⟨Nat.zero_le _, Nat.zero_le _⟩ (Nat.le_of_ble_eq_true rfl) dX8_party_15 (fun H locs hw => ?_)
    cases hf
    exact K _ _ _ _ dX8_party_18 hw
def f_X8_refuses (x1 : Int32) (uF7 : Int32) : Option (Int32 × Int32) :=
  some (9, x1)
set_option maxHeartbeats 4000000 in
set_option maxRecDepth 100000 in
theorem m_X8_refuses {l : Launch} {κ : xKt} {wA : Nat → sAcc} {wT : sTxt} {wG : sRng} {wM : sMai} {wO : sOut}  {x1 : Int32} {uF0 : Int32} {uF1 : xF64} {uF2 : xF64} {uF3 : xF64} {uF4 : xF64} {uF5 : Int32} {uF6 : Int32} {uF7 : Int32} {uF8 : xF32} {uF9 : Int32} {uF10 : Int32} {uF11 : Int64} {uF12 : xF32} {uF13 : Int32} {uF14 : Int32} {uF15 : Int32} {uF16 : xF32} {uF17 : xF32} {uF18 : Int32} {rr : Int32} {yF7 : Int32} (hf : f_X8_refuses x1 uF7 = some (rr, yF7)) : xMi l κ yX8_refuses cX8_refuses 2 (some .int) (xR 0 0 0) [.ref (xAd κ 245), .int x1] (wA, wT, wG, wM, (uF0, uF1, uF2, uF3, uF4, uF5, uF6, uF7, uF8, uF9, uF10, uF11, uF12, uF13, uF14, uF15, uF16, uF17, uF18), wO) (wA, wT, wG, wM, (uF0, uF1, uF2, uF3, uF4, uF5, uF6, yF7, uF8, uF9, uF10, uF11, uF12, uF13, uF14, uF15, uF16, uF17, uF18), wO) rr := by
  unfold f_X8_refuses at hf
  refine xMi_of pn_X8 (Nat.le_of_ble_eq_true rfl) ⟨rfl, rfl⟩ ?_
  intro A p e s m args below meth c ls Q hc hw hl K
  have hc : xC κ A p s m args meth c cX8_refuses RX8 2 (some .int) := hc
  have hx := hc.1.1
  have hb := hc.1.2.1
  have hl : lv_has ls 2 [(0, .ref (xAd κ 245)), (1, .int x1)] := hl
  refine lv_aload_n hx hb dX8_refuses_0 rfl (lv_at hl 0 rfl) ?_
  refine lv_iload_n hx hb dX8_refuses_1 rfl (lv_at hl 1 rfl) ?_
  refine x_put (σ' := (wA, wT, wG, wM, (uF0, uF1, uF2, uF3, uF4, uF5, uF6, x1, uF8, uF9, uF10, uF11, uF12, uF13, uF14, uF15, uF16, uF17, uF18), wO)) hc hw co_245 fX8_169 rfl rfl (Nat.le_of_ble_eq_true rfl) so_F_7 dX8_refuses_2 (fun H locs hw => ?_)
  refine lv_bipush (v := 9) hx hb dX8_refuses_5 (by decide) ?_
  cases hf
  exact K _ _ _ _ dX8_refuses_7 rfl hw
def f_X8_claiming (x1 : Int32) (x2 : Int32) (x3 : Int32) (uF1 : xF64) (uF11 : Int64) : Option (Int32 × xF64 × Int64) :=
  xb1 (f_X8_isParty x1 uF1) fun v1 => (if v1 = 0 then (some (1, uF1, uF11)) else (xb1 (f_X8_isParty x2 uF1) fun v4 => (if v4 = 0 then (some (1, uF1, uF11)) else (xk (xin (14 + x1) 304) (xk (xin (14 + x2) 304) (if (uF1 (14 + x1).toNatClampNeg) = (uF1 (14 + x2).toNatClampNeg) then (some (2, uF1, uF11)) else (xb1 (f_X8_in x3 1 100000000) fun v10 => (if v10 = 0 then (some (2, uF1, uF11)) else (xb1 (f_X8_claims uF1) fun v13 => (if v13 = 12 then (some (3, uF1, uF11)) else (xk (xin 1 304) (if (uF1 (1 : Int32).toNatClampNeg) = 3 then (some (3, uF1, uF11)) else (xb1 (f_X8_claims uF1) fun v18 => (xb1 (f_X8_claimAt v18 0) fun v20 => (xk (xin v20 304) (xb1 (f_X8_claimAt v18 1) fun v23 => (xk (xin v23 304) (xb1 (f_X8_claimAt v18 2) fun v26 => (xk (xin v26 304) (xk (xin 3 304) (xk (xin 3 304) (some (0, (vp_updL (vp_updL (vp_updL (vp_updL uF1 v20.toNatClampNeg x1.toInt64) v23.toNatClampNeg x2.toInt64) v26.toNatClampNeg x3.toInt64) (3 : Int32).toNatClampNeg (((vp_updL (vp_updL (vp_updL uF1 v20.toNatClampNeg x1.toInt64) v23.toNatClampNeg x2.toInt64) v26.toNatClampNeg x3.toInt64) (3 : Int32).toNatClampNeg) + 1)), v18.toInt64)))))))))))))))))))))))
set_option maxHeartbeats 4000000 in
set_option maxRecDepth 100000 in
theorem m_X8_claiming {l : Launch} {κ : xKt} {wA : Nat → sAcc} {wT : sTxt} {wG : sRng} {wM : sMai} {wO : sOut}  {x1 : Int32} {x2 : Int32} {x3 : Int32} {uF0 : Int32} {uF1 : xF64} {uF2 : xF64} {uF3 : xF64} {uF4 : xF64} {uF5 : Int32} {uF6 : Int32} {uF7 : Int32} {uF8 : xF32} {uF9 : Int32} {uF10 : Int32} {uF11 : Int64} {uF12 : xF32} {uF13 : Int32} {uF14 : Int32} {uF15 : Int32} {uF16 : xF32} {uF17 : xF32} {uF18 : Int32} {rr : Int32} {yF1 : xF64} {yF11 : Int64} (hf : f_X8_claiming x1 x2 x3 uF1 uF11 = some (rr, yF1, yF11)) : xMi l κ yX8_claiming cX8_claiming 5 (some .int) (xR 2 0 0) [.ref (xAd κ 245), .int x1, .int x2, .int x3] (wA, wT, wG, wM, (uF0, uF1, uF2, uF3, uF4, uF5, uF6, uF7, uF8, uF9, uF10, uF11, uF12, uF13, uF14, uF15, uF16, uF17, uF18), wO) (wA, wT, wG, wM, (uF0, yF1, uF2, uF3, uF4, uF5, uF6, uF7, uF8, uF9, uF10, yF11, uF12, uF13, uF14, uF15, uF16, uF17, uF18), wO) rr := by
  unfold f_X8_claiming at hf
  refine xMi_of pn_X8 (Nat.le_of_ble_eq_true rfl) ⟨rfl, rfl⟩ ?_
  intro A p e s m args below meth c ls Q hc hw hl K
  have hc : xC κ A p s m args meth c cX8_claiming RX8 5 (some .int) := hc
  have hx := hc.1.1
  have hb := hc.1.2.1
  have hl : lv_has ls 5 [(0, .ref (xAd κ 245)), (1, .int x1), (2, .int x2), (3, .int x3)] := hl
  refine lv_aload_n hx hb dX8_claiming_0 rfl (lv_at hl 0 rfl) ?_
  refine lv_iload_n hx hb dX8_claiming_1 rfl (lv_at hl 1 rfl) ?_
  obtain ⟨v1, h2, hf⟩ := xb1_of hf
  refine x_calliV (As := [.int x1]) (rest := []) (σ' := (wA, wT, wG, wM, (uF0, uF1, uF2, uF3, uF4, uF5, uF6, uF7, uF8, uF9, uF10, uF11, uF12, uF13, uF14, uF15, uF16, uF17, uF18), wO)) hc hw hl.1 (m_X8_isParty h2) kX8_149 co_245 rfl rfl ⟨rfl, rfl⟩ ⟨Nat.le_of_ble_eq_true rfl, Nat.le_of_ble_eq_true rfl⟩ ⟨Nat.zero_le _, Nat.zero_le _⟩ (Nat.le_of_ble_eq_true rfl) dX8_claiming_2 (fun H locs hw => ?_)
  refine lv_if_eq (tgt := 16) hx hb dX8_claiming_5 (by decide) (fun c3 => ?_) (fun c3 => ?_)
  · have hf := xif_t c3 hf
    refine lv_iconst (v := 1) hx hb dX8_claiming_16 (by decide) ?_
    cases hf
    exact K _ _ _ _ dX8_claiming_17 rfl hw
  · have hf := xif_f c3 hf
    refine lv_aload_n hx hb dX8_claiming_8 rfl (lv_at hl 0 rfl) ?_
    refine lv_iload_n hx hb dX8_claiming_9 rfl (lv_at hl 2 rfl) ?_
    obtain ⟨v4, h5, hf⟩ := xb1_of hf
    refine x_calliV (As := [.int x2]) (rest := []) (σ' := (wA, wT, wG, wM, (uF0, uF1, uF2, uF3, uF4, uF5, uF6, uF7, uF8, uF9, uF10, uF11, uF12, uF13, uF14, uF15, uF16, uF17, uF18), wO)) hc hw hl.1 (m_X8_isParty h5) kX8_149 co_245 rfl rfl ⟨rfl, rfl⟩ ⟨Nat.le_of_ble_eq_true rfl, Nat.le_of_ble_eq_true rfl⟩ ⟨Nat.zero_le _, Nat.zero_le _⟩ (Nat.le_of_ble_eq_true rfl) dX8_claiming_10 (fun H locs hw => ?_)
    refine lv_if_ne (tgt := 18) hx hb dX8_claiming_13 (by decide) (fun c6 => ?_) (fun c6 => ?_)
    · have hf := xif_f c6 hf
      refine lv_aload_n hx hb dX8_claiming_18 rfl (lv_at hl 0 rfl) ?_
      refine x_get (v := .ref (xAd κ 246)) hc hw co_245 fX8_7 rfl dX8_claiming_19 ?_
      refine lv_bipush (v := 14) hx hb dX8_claiming_22 (by decide) ?_
      refine lv_iload_n hx hb dX8_claiming_24 rfl (lv_at hl 1 rfl) ?_
      refine lv_iadd hx hb dX8_claiming_25 ?_
      obtain ⟨k7, hf⟩ := xk_of hf
      refine x_lald (n := 304) (f := uF1) hc hw co_246 k7 dX8_claiming_26 ?_
      refine lv_aload_n hx hb dX8_claiming_27 rfl (lv_at hl 0 rfl) ?_
      refine x_get (v := .ref (xAd κ 246)) hc hw co_245 fX8_7 rfl dX8_claiming_28 ?_
      refine lv_bipush (v := 14) hx hb dX8_claiming_31 (by decide) ?_
      refine lv_iload_n hx hb dX8_claiming_33 rfl (lv_at hl 2 rfl) ?_
      refine lv_iadd hx hb dX8_claiming_34 ?_
      obtain ⟨k8, hf⟩ := xk_of hf
      refine x_lald (n := 304) (f := uF1) hc hw co_246 k8 dX8_claiming_35 ?_
      refine x_lcmp_eq (tgt := 50) hx hb dX8_claiming_36 dX8_claiming_37 (by decide) (fun c9 => ?_) (fun c9 => ?_)
      · have hf := xif_t c9 hf
        refine lv_iconst (v := 2) hx hb dX8_claiming_50 (by decide) ?_
        cases hf
        exact K _ _ _ _ dX8_claiming_51 rfl hw
      · have hf := xif_f c9 hf
        refine lv_iload_n hx hb dX8_claiming_40 rfl (lv_at hl 3 rfl) ?_
        refine lv_iconst (v := 1) hx hb dX8_claiming_41 (by decide) ?_
        refine x_ldc hc w_constant_RX8_172_100000000 dX8_claiming_42 ?_
        obtain ⟨v10, h11, hf⟩ := xb1_of hf
        refine x_calliS (As := [.int x3, .int 1, .int 100000000]) (rest := []) (σ' := (wA, wT, wG, wM, (uF0, uF1, uF2, uF3, uF4, uF5, uF6, uF7, uF8, uF9, uF10, uF11, uF12, uF13, uF14, uF15, uF16, uF17, uF18), wO)) hc hw hl.1 (m_X8_in h11) kX8_63 rfl rfl ⟨rfl, rfl⟩ ⟨Nat.le_of_ble_eq_true rfl, Nat.le_of_ble_eq_true rfl⟩ ⟨Nat.zero_le _, Nat.zero_le _⟩ (Nat.le_of_ble_eq_true rfl) dX8_claiming_44 (fun H locs hw => ?_)
        refine lv_if_ne (tgt := 52) hx hb dX8_claiming_47 (by decide) (fun c12 => ?_) (fun c12 => ?_)
        · have hf := xif_f c12 hf
          refine lv_aload_n hx hb dX8_claiming_52 rfl (lv_at hl 0 rfl) ?_
          obtain ⟨v13, h14, hf⟩ := xb1_of hf
          refine x_calliV (As := []) (rest := []) (σ' := (wA, wT, wG, wM, (uF0, uF1, uF2, uF3, uF4, uF5, uF6, uF7, uF8, uF9, uF10, uF11, uF12, uF13, uF14, uF15, uF16, uF17, uF18), wO)) hc hw hl.1 (m_X8_claims h14) kX8_67 co_245 rfl rfl ⟨rfl, rfl⟩ ⟨Nat.le_of_ble_eq_true rfl, Nat.le_of_ble_eq_true rfl⟩ ⟨Nat.zero_le _, Nat.zero_le _⟩ (Nat.le_of_ble_eq_true rfl) dX8_claiming_53 (fun H locs hw => ?_)
          refine lv_bipush (v := 12) hx hb dX8_claiming_56 (by decide) ?_
          refine lv_icmp_eq (tgt := 74) hx hb dX8_claiming_58 (by decide) (fun c15 => ?_) (fun c15 => ?_)
          · have hf := xif_t c15 hf
            refine lv_iconst (v := 3) hx hb dX8_claiming_74 (by decide) ?_
            cases hf
            exact K _ _ _ _ dX8_claiming_75 rfl hw
          · have hf := xif_f c15 hf
            refine lv_aload_n hx hb dX8_claiming_61 rfl (lv_at hl 0 rfl) ?_
            refine x_get (v := .ref (xAd κ 246)) hc hw co_245 fX8_7 rfl dX8_claiming_62 ?_
            refine lv_iconst (v := 1) hx hb dX8_claiming_65 (by decide) ?_
            obtain ⟨k16, hf⟩ := xk_of hf
            refine x_lald (n := 304) (f := uF1) hc hw co_246 k16 dX8_claiming_66 ?_
            refine x_ldc2 hc w_constantLong_RX8_173_3 dX8_claiming_67 ?_
            refine x_lcmp_ne (tgt := 76) hx hb dX8_claiming_70 dX8_claiming_71 (by decide) (fun c17 => ?_) (fun c17 => ?_)
            · have hf := xif_f c17 hf
              refine lv_aload_n hx hb dX8_claiming_76 rfl (lv_at hl 0 rfl) ?_
              obtain ⟨v18, h19, hf⟩ := xb1_of hf
              refine x_calliV (As := []) (rest := []) (σ' := (wA, wT, wG, wM, (uF0, uF1, uF2, uF3, uF4, uF5, uF6, uF7, uF8, uF9, uF10, uF11, uF12, uF13, uF14, uF15, uF16, uF17, uF18), wO)) hc hw hl.1 (m_X8_claims h19) kX8_67 co_245 rfl rfl ⟨rfl, rfl⟩ ⟨Nat.le_of_ble_eq_true rfl, Nat.le_of_ble_eq_true rfl⟩ ⟨Nat.zero_le _, Nat.zero_le _⟩ (Nat.le_of_ble_eq_true rfl) dX8_claiming_77 (fun H locs hw => ?_)
              refine lv_istore (lv' := [(4, .int v18), (0, .ref (xAd κ 245)), (1, .int x1), (2, .int x2), (3, .int x3)]) hx hb dX8_claiming_80 hl (by decide) rfl (fun ls hl => ?_)
              refine lv_aload_n hx hb dX8_claiming_82 rfl (lv_at hl 1 rfl) ?_
              refine x_get (v := .ref (xAd κ 246)) hc hw co_245 fX8_7 rfl dX8_claiming_83 ?_
              refine lv_aload_n hx hb dX8_claiming_86 rfl (lv_at hl 1 rfl) ?_
              refine lv_iload hx hb dX8_claiming_87 (lv_at hl 0 rfl) ?_
              refine lv_iconst (v := 0) hx hb dX8_claiming_89 (by decide) ?_
              obtain ⟨v20, h21, hf⟩ := xb1_of hf
              refine x_calliV (As := [.int v18, .int 0]) (rest := [.ref (xAd κ 246)]) (σ' := (wA, wT, wG, wM, (uF0, uF1, uF2, uF3, uF4, uF5, uF6, uF7, uF8, uF9, uF10, uF11, uF12, uF13, uF14, uF15, uF16, uF17, uF18), wO)) hc hw hl.1 (m_X8_claimAt h21) kX8_90 co_245 rfl rfl ⟨rfl, rfl⟩ ⟨Nat.le_of_ble_eq_true rfl, Nat.le_of_ble_eq_true rfl⟩ ⟨Nat.zero_le _, Nat.zero_le _⟩ (Nat.le_of_ble_eq_true rfl) dX8_claiming_90 (fun H locs hw => ?_)
              refine lv_iload_n hx hb dX8_claiming_93 rfl (lv_at hl 2 rfl) ?_
              refine lv_i2l (v := x1.toInt64) hx hb dX8_claiming_94 rfl ?_
              obtain ⟨k22, hf⟩ := xk_of hf
              refine x_last (n := 304) (f := uF1) (σ' := (wA, wT, wG, wM, (uF0, (vp_updL uF1 v20.toNatClampNeg x1.toInt64), uF2, uF3, uF4, uF5, uF6, uF7, uF8, uF9, uF10, uF11, uF12, uF13, uF14, uF15, uF16, uF17, uF18), wO)) hc hw co_246 k22 so_F_1 dX8_claiming_95 (fun H locs hw => ?_)
              refine lv_aload_n hx hb dX8_claiming_96 rfl (lv_at hl 1 rfl) ?_
              refine x_get (v := .ref (xAd κ 246)) hc hw co_245 fX8_7 rfl dX8_claiming_97 ?_
              refine lv_aload_n hx hb dX8_claiming_100 rfl (lv_at hl 1 rfl) ?_
              refine lv_iload hx hb dX8_claiming_101 (lv_at hl 0 rfl) ?_
              refine lv_iconst (v := 1) hx hb dX8_claiming_103 (by decide) ?_
              obtain ⟨v23, h24, hf⟩ := xb1_of hf
              refine x_calliV (As := [.int v18, .int 1]) (rest := [.ref (xAd κ 246)]) (σ' := (wA, wT, wG, wM, (uF0, (vp_updL uF1 v20.toNatClampNeg x1.toInt64), uF2, uF3, uF4, uF5, uF6, uF7, uF8, uF9, uF10, uF11, uF12, uF13, uF14, uF15, uF16, uF17, uF18), wO)) hc hw hl.1 (m_X8_claimAt h24) kX8_90 co_245 rfl rfl ⟨rfl, rfl⟩ ⟨Nat.le_of_ble_eq_true rfl, Nat.le_of_ble_eq_true rfl⟩ ⟨Nat.zero_le _, Nat.zero_le _⟩ (Nat.le_of_ble_eq_true rfl) dX8_claiming_104 (fun H locs hw => ?_)
              refine lv_iload_n hx hb dX8_claiming_107 rfl (lv_at hl 3 rfl) ?_
              refine lv_i2l (v := x2.toInt64) hx hb dX8_claiming_108 rfl ?_
              obtain ⟨k25, hf⟩ := xk_of hf
              refine x_last (n := 304) (f := (vp_updL uF1 v20.toNatClampNeg x1.toInt64)) (σ' := (wA, wT, wG, wM, (uF0, (vp_updL (vp_updL uF1 v20.toNatClampNeg x1.toInt64) v23.toNatClampNeg x2.toInt64), uF2, uF3, uF4, uF5, uF6, uF7, uF8, uF9, uF10, uF11, uF12, uF13, uF14, uF15, uF16, uF17, uF18), wO)) hc hw co_246 k25 so_F_1 dX8_claiming_109 (fun H locs hw => ?_)
              refine lv_aload_n hx hb dX8_claiming_110 rfl (lv_at hl 1 rfl) ?_
              refine x_get (v := .ref (xAd κ 246)) hc hw co_245 fX8_7 rfl dX8_claiming_111 ?_
              refine lv_aload_n hx hb dX8_claiming_114 rfl (lv_at hl 1 rfl) ?_
              refine lv_iload hx hb dX8_claiming_115 (lv_at hl 0 rfl) ?_
              refine lv_iconst (v := 2) hx hb dX8_claiming_117 (by decide) ?_
              obtain ⟨v26, h27, hf⟩ := xb1_of hf
              refine x_calliV (As := [.int v18, .int 2]) (rest := [.ref (xAd κ 246)]) (σ' := (wA, wT, wG, wM, (uF0, (vp_updL (vp_updL uF1 v20.toNatClampNeg x1.toInt64) v23.toNatClampNeg x2.toInt64), uF2, uF3, uF4, uF5, uF6, uF7, uF8, uF9, uF10, uF11, uF12, uF13, uF14, uF15, uF16, uF17, uF18), wO)) hc hw hl.1 (m_X8_claimAt h27) kX8_90 co_245 rfl rfl ⟨rfl, rfl⟩ ⟨Nat.le_of_ble_eq_true rfl, Nat.le_of_ble_eq_true rfl⟩ ⟨Nat.zero_le _, Nat.zero_le _⟩ (Nat.le_of_ble_eq_true rfl) dX8_claiming_118 (fun H locs hw => ?_)
              refine lv_iload_n hx hb dX8_claiming_121 rfl (lv_at hl 4 rfl) ?_
              refine lv_i2l (v := x3.toInt64) hx hb dX8_claiming_122 rfl ?_
              obtain ⟨k28, hf⟩ := xk_of hf
              refine x_last (n := 304) (f := (vp_updL (vp_updL uF1 v20.toNatClampNeg x1.toInt64) v23.toNatClampNeg x2.toInt64)) (σ' := (wA, wT, wG, wM, (uF0, (vp_updL (vp_updL (vp_updL uF1 v20.toNatClampNeg x1.toInt64) v23.toNatClampNeg x2.toInt64) v26.toNatClampNeg x3.toInt64), uF2, uF3, uF4, uF5, uF6, uF7, uF8, uF9, uF10, uF11, uF12, uF13, uF14, uF15, uF16, uF17, uF18), wO)) hc hw co_246 k28 so_F_1 dX8_claiming_123 (fun H locs hw => ?_)
              refine lv_aload_n hx hb dX8_claiming_124 rfl (lv_at hl 1 rfl) ?_
              refine x_get (v := .ref (xAd κ 246)) hc hw co_245 fX8_7 rfl dX8_claiming_125 ?_
              refine lv_iconst (v := 3) hx hb dX8_claiming_128 (by decide) ?_
              refine lv_dup2_11 hx hb dX8_claiming_129 rfl rfl ?_
              obtain ⟨k29, hf⟩ := xk_of hf
              refine x_lald (n := 304) (f := (vp_updL (vp_updL (vp_updL uF1 v20.toNatClampNeg x1.toInt64) v23.toNatClampNeg x2.toInt64) v26.toNatClampNeg x3.toInt64)) hc hw co_246 k29 dX8_claiming_130 ?_
              refine lv_lconst (v := 1) hx hb dX8_claiming_131 (by decide) ?_
              refine lv_ladd hx hb dX8_claiming_132 ?_
              obtain ⟨k30, hf⟩ := xk_of hf
              refine x_last (n := 304) (f := (vp_updL (vp_updL (vp_updL uF1 v20.toNatClampNeg x1.toInt64) v23.toNatClampNeg x2.toInt64) v26.toNatClampNeg x3.toInt64)) (σ' := (wA, wT, wG, wM, (uF0, (vp_updL (vp_updL (vp_updL (vp_updL uF1 v20.toNatClampNeg x1.toInt64) v23.toNatClampNeg x2.toInt64) v26.toNatClampNeg x3.toInt64) (3 : Int32).toNatClampNeg (((vp_updL (vp_updL (vp_updL uF1 v20.toNatClampNeg x1.toInt64) v23.toNatClampNeg x2.toInt64) v26.toNatClampNeg x3.toInt64) (3 : Int32).toNatClampNeg) + 1)), uF2, uF3, uF4, uF5, uF6, uF7, uF8, uF9, uF10, uF11, uF12, uF13, uF14, uF15, uF16, uF17, uF18), wO)) hc hw co_246 k30 so_F_1 dX8_claiming_133 (fun H locs hw => ?_)
              refine lv_aload_n hx hb dX8_claiming_134 rfl (lv_at hl 1 rfl) ?_
              refine lv_iload hx hb dX8_claiming_135 (lv_at hl 0 rfl) ?_
              refine lv_i2l (v := v18.toInt64) hx hb dX8_claiming_137 rfl ?_
              refine x_put (σ' := (wA, wT, wG, wM, (uF0, (vp_updL (vp_updL (vp_updL (vp_updL uF1 v20.toNatClampNeg x1.toInt64) v23.toNatClampNeg x2.toInt64) v26.toNatClampNeg x3.toInt64) (3 : Int32).toNatClampNeg (((vp_updL (vp_updL (vp_updL uF1 v20.toNatClampNeg x1.toInt64) v23.toNatClampNeg x2.toInt64) v26.toNatClampNeg x3.toInt64) (3 : Int32).toNatClampNeg) + 1)), uF2, uF3, uF4, uF5, uF6, uF7, uF8, uF9, uF10, v18.toInt64, uF12, uF13, uF14, uF15, uF16, uF17, uF18), wO)) hc hw co_245 fX8_175 rfl rfl (Nat.le_of_ble_eq_true rfl) so_F_11 dX8_claiming_138 (fun H locs hw => ?_)
              refine lv_iconst (v := 0) hx hb dX8_claiming_141 (by decide) ?_
              cases hf
              exact K _ _ _ _ dX8_claiming_142 rfl hw
            · have hf := xif_t c17 hf
              refine lv_iconst (v := 3) hx hb dX8_claiming_74 (by decide) ?_
              cases hf
              exact K _ _ _ _ dX8_claiming_75 rfl hw
        · have hf := xif_t c12 hf
          refine lv_iconst (v := 2) hx hb dX8_claiming_50 (by decide) ?_
          cases hf
          exact K _ _ _ _ dX8_claiming_51 rfl hw
    · have hf := xif_t c6 hf
      refine lv_iconst (v := 1) hx hb dX8_claiming_16 (by decide) ?_
      cases hf
      exact K _ _ _ _ dX8_claiming_17 rfl hw
def f_X8_restOf (x1 : Int32) (uF1 : xF64) : Option Int64 :=
  xb1 (f_X8_claimAt x1 2) fun v1 => (xk (xin v1 304) (xb1 (f_X8_claimAt x1 3) fun v4 => (xk (xin v4 304) (xb1 (f_X8_claimAt x1 4) fun v7 => (xk (xin v7 304) (xb1 (f_X8_claimAt x1 5) fun v10 => (xk (xin v10 304) (some (((((uF1 v1.toNatClampNeg) - (uF1 v4.toNatClampNeg)) - (uF1 v7.toNatClampNeg)) - (uF1 v10.toNatClampNeg)))))))))))
set_option maxHeartbeats 4000000 in
set_option maxRecDepth 100000 in
theorem m_X8_restOf {l : Launch} {κ : xKt} {wA : Nat → sAcc} {wT : sTxt} {wG : sRng} {wM : sMai} {wO : sOut}  {x1 : Int32} {uF0 : Int32} {uF1 : xF64} {uF2 : xF64} {uF3 : xF64} {uF4 : xF64} {uF5 : Int32} {uF6 : Int32} {uF7 : Int32} {uF8 : xF32} {uF9 : Int32} {uF10 : Int32} {uF11 : Int64} {uF12 : xF32} {uF13 : Int32} {uF14 : Int32} {uF15 : Int32} {uF16 : xF32} {uF17 : xF32} {uF18 : Int32} {rr : Int64} (hf : f_X8_restOf x1 uF1 = some rr) : xMl l κ yX8_restOf cX8_restOf 2 (some .long) (xR 1 0 0) [.ref (xAd κ 245), .int x1] (wA, wT, wG, wM, (uF0, uF1, uF2, uF3, uF4, uF5, uF6, uF7, uF8, uF9, uF10, uF11, uF12, uF13, uF14, uF15, uF16, uF17, uF18), wO) (wA, wT, wG, wM, (uF0, uF1, uF2, uF3, uF4, uF5, uF6, uF7, uF8, uF9, uF10, uF11, uF12, uF13, uF14, uF15, uF16, uF17, uF18), wO) rr := by
  unfold f_X8_restOf at hf
  refine xMl_of pn_X8 (Nat.le_of_ble_eq_true rfl) ⟨rfl, rfl⟩ ?_
  intro A p e s m args below meth c ls Q hc hw hl K
  have hc : xC κ A p s m args meth c cX8_restOf RX8 2 (some .long) := hc
  have hx := hc.1.1
  have hb := hc.1.2.1
  have hl : lv_has ls 2 [(0, .ref (xAd κ 245)), (1, .int x1)] := hl
  refine lv_aload_n hx hb dX8_restOf_0 rfl (lv_at hl 0 rfl) ?_
  refine x_get (v := .ref (xAd κ 246)) hc hw co_245 fX8_7 rfl dX8_restOf_1 ?_
  refine lv_aload_n hx hb dX8_restOf_4 rfl (lv_at hl 0 rfl) ?_
  refine lv_iload_n hx hb dX8_restOf_5 rfl (lv_at hl 1 rfl) ?_
  refine lv_iconst (v := 2) hx hb dX8_restOf_6 (by decide) ?_
  obtain ⟨v1, h2, hf⟩ := xb1_of hf
  refine x_calliV (As := [.int x1, .int 2]) (rest := [.ref (xAd κ 246)]) (σ' := (wA, wT, wG, wM, (uF0, uF1, uF2, uF3, uF4, uF5, uF6, uF7, uF8, uF9, uF10, uF11, uF12, uF13, uF14, uF15, uF16, uF17, uF18), wO)) hc hw hl.1 (m_X8_claimAt h2) kX8_90 co_245 rfl rfl ⟨rfl, rfl⟩ ⟨Nat.le_of_ble_eq_true rfl, Nat.le_of_ble_eq_true rfl⟩ ⟨Nat.zero_le _, Nat.zero_le _⟩ (Nat.le_of_ble_eq_true rfl) dX8_restOf_7 (fun H locs hw => ?_)
  obtain ⟨k3, hf⟩ := xk_of hf
  refine x_lald (n := 304) (f := uF1) hc hw co_246 k3 dX8_restOf_10 ?_
  refine lv_aload_n hx hb dX8_restOf_11 rfl (lv_at hl 0 rfl) ?_
  refine x_get (v := .ref (xAd κ 246)) hc hw co_245 fX8_7 rfl dX8_restOf_12 ?_
  refine lv_aload_n hx hb dX8_restOf_15 rfl (lv_at hl 0 rfl) ?_
  refine lv_iload_n hx hb dX8_restOf_16 rfl (lv_at hl 1 rfl) ?_
  refine lv_iconst (v := 3) hx hb dX8_restOf_17 (by decide) ?_
  obtain ⟨v4, h5, hf⟩ := xb1_of hf
  refine x_calliV (As := [.int x1, .int 3]) (rest := [.ref (xAd κ 246), .long (uF1 v1.toNatClampNeg)]) (σ' := (wA, wT, wG, wM, (uF0, uF1, uF2, uF3, uF4, uF5, uF6, uF7, uF8, uF9, uF10, uF11, uF12, uF13, uF14, uF15, uF16, uF17, uF18), wO)) hc hw hl.1 (m_X8_claimAt h5) kX8_90 co_245 rfl rfl ⟨rfl, rfl⟩ ⟨Nat.le_of_ble_eq_true rfl, Nat.le_of_ble_eq_true rfl⟩ ⟨Nat.zero_le _, Nat.zero_le _⟩ (Nat.le_of_ble_eq_true rfl) dX8_restOf_18 (fun H locs hw => ?_)
  obtain ⟨k6, hf⟩ := xk_of hf
  refine x_lald (n := 304) (f := uF1) hc hw co_246 k6 dX8_restOf_21 ?_
  refine lv_lsub hx hb dX8_restOf_22 ?_
  refine lv_aload_n hx hb dX8_restOf_23 rfl (lv_at hl 0 rfl) ?_
  refine x_get (v := .ref (xAd κ 246)) hc hw co_245 fX8_7 rfl dX8_restOf_24 ?_
  refine lv_aload_n hx hb dX8_restOf_27 rfl (lv_at hl 0 rfl) ?_
  refine lv_iload_n hx hb dX8_restOf_28 rfl (lv_at hl 1 rfl) ?_
  refine lv_iconst (v := 4) hx hb dX8_restOf_29 (by decide) ?_
  obtain ⟨v7, h8, hf⟩ := xb1_of hf
  refine x_calliV (As := [.int x1, .int 4]) (rest := [.ref (xAd κ 246), .long ((uF1 v1.toNatClampNeg) - (uF1 v4.toNatClampNeg))]) (σ' := (wA, wT, wG, wM, (uF0, uF1, uF2, uF3, uF4, uF5, uF6, uF7, uF8, uF9, uF10, uF11, uF12, uF13, uF14, uF15, uF16, uF17, uF18), wO)) hc hw hl.1 (m_X8_claimAt h8) kX8_90 co_245 rfl rfl ⟨rfl, rfl⟩ ⟨Nat.le_of_ble_eq_true rfl, Nat.le_of_ble_eq_true rfl⟩ ⟨Nat.zero_le _, Nat.zero_le _⟩ (Nat.le_of_ble_eq_true rfl) dX8_restOf_30 (fun H locs hw => ?_)
  obtain ⟨k9, hf⟩ := xk_of hf
  refine x_lald (n := 304) (f := uF1) hc hw co_246 k9 dX8_restOf_33 ?_
  refine lv_lsub hx hb dX8_restOf_34 ?_
  refine lv_aload_n hx hb dX8_restOf_35 rfl (lv_at hl 0 rfl) ?_
  refine x_get (v := .ref (xAd κ 246)) hc hw co_245 fX8_7 rfl dX8_restOf_36 ?_
  refine lv_aload_n hx hb dX8_restOf_39 rfl (lv_at hl 0 rfl) ?_
  refine lv_iload_n hx hb dX8_restOf_40 rfl (lv_at hl 1 rfl) ?_
  refine lv_iconst (v := 5) hx hb dX8_restOf_41 (by decide) ?_
  obtain ⟨v10, h11, hf⟩ := xb1_of hf
  refine x_calliV (As := [.int x1, .int 5]) (rest := [.ref (xAd κ 246), .long (((uF1 v1.toNatClampNeg) - (uF1 v4.toNatClampNeg)) - (uF1 v7.toNatClampNeg))]) (σ' := (wA, wT, wG, wM, (uF0, uF1, uF2, uF3, uF4, uF5, uF6, uF7, uF8, uF9, uF10, uF11, uF12, uF13, uF14, uF15, uF16, uF17, uF18), wO)) hc hw hl.1 (m_X8_claimAt h11) kX8_90 co_245 rfl rfl ⟨rfl, rfl⟩ ⟨Nat.le_of_ble_eq_true rfl, Nat.le_of_ble_eq_true rfl⟩ ⟨Nat.zero_le _, Nat.zero_le _⟩ (Nat.le_of_ble_eq_true rfl) dX8_restOf_42 (fun H locs hw => ?_)
  obtain ⟨k12, hf⟩ := xk_of hf
  refine x_lald (n := 304) (f := uF1) hc hw co_246 k12 dX8_restOf_45 ?_
  refine lv_lsub hx hb dX8_restOf_46 ?_
  cases hf
  exact K _ _ _ _ dX8_restOf_47 hw
def f_X8_deciding (fu : Nat) (x1 : Int32) (x2 : Int32) (x3 : Int32) (uF1 : xF64) (uF7 : Int32) (uF11 : Int64) : Option (Int32 × xF64 × Int32 × Int64) :=
  xb1 (f_X8_isClaim x2 uF1) fun v1 => (if v1 = 0 then (some (1, uF1, uF7, uF11)) else (if 1 ≤ x3 then (if 3 ≤ x1 then (if x1 = 3 then (xk (xin 1 304) (if (uF1 (1 : Int32).toNatClampNeg) ≤ 1 then (xb1 (f_X8_restOf x2 uF1) fun v36 => (if x3.toInt64 ≤ v36 then (xb1 (f_X8_claimAt x2 (2 + x1)) fun v39 => (xk (xin v39 304) (xk (xin v39 304) (if x1 = 1 then (xb1 (f_X8_claimAt x2 1) fun v48 => (xk (xin v48 304) (xb1 (f_X8_claimAt x2 0) fun v51 => (xk (xin v51 304) (xb1 (f_X8_owes fu ((vp_updL uF1 v39.toNatClampNeg ((uF1 v39.toNatClampNeg) + x3.toInt64)) v48.toNatClampNeg).toInt32 ((vp_updL uF1 v39.toNatClampNeg ((uF1 v39.toNatClampNeg) + x3.toInt64)) v51.toNatClampNeg).toInt32 x3.toInt64 (vp_updL uF1 v39.toNatClampNeg ((uF1 v39.toNatClampNeg) + x3.toInt64))) fun uF1_54 => (xb1 (f_X8_notes fu x1 x3.toInt64 uF1_54) fun uF1_56 => (xb1 (f_X8_restOf x2 uF1_56) fun v58 => (some (0, uF1_56, uF7, v58))))))))) else (xb1 (f_X8_notes fu x1 x3.toInt64 (vp_updL uF1 v39.toNatClampNeg ((uF1 v39.toNatClampNeg) + x3.toInt64))) fun uF1_44 => (xb1 (f_X8_restOf x2 uF1_44) fun v46 => (some (0, uF1_44, uF7, v46)))))))) else (xb2 (f_X8_refuses 3 uF7) fun v60 uF7_61 => (some (v60, uF1, uF7_61, uF11))))) else (xb2 (f_X8_refuses 2 uF7) fun v63 uF7_64 => (some (v63, uF1, uF7_64, uF11))))) else (xb1 (f_X8_restOf x2 uF1) fun v7 => (if x3.toInt64 ≤ v7 then (xb1 (f_X8_claimAt x2 (2 + x1)) fun v10 => (xk (xin v10 304) (xk (xin v10 304) (if x1 = 1 then (xb1 (f_X8_claimAt x2 1) fun v19 => (xk (xin v19 304) (xb1 (f_X8_claimAt x2 0) fun v22 => (xk (xin v22 304) (xb1 (f_X8_owes fu ((vp_updL uF1 v10.toNatClampNeg ((uF1 v10.toNatClampNeg) + x3.toInt64)) v19.toNatClampNeg).toInt32 ((vp_updL uF1 v10.toNatClampNeg ((uF1 v10.toNatClampNeg) + x3.toInt64)) v22.toNatClampNeg).toInt32 x3.toInt64 (vp_updL uF1 v10.toNatClampNeg ((uF1 v10.toNatClampNeg) + x3.toInt64))) fun uF1_25 => (xb1 (f_X8_notes fu x1 x3.toInt64 uF1_25) fun uF1_27 => (xb1 (f_X8_restOf x2 uF1_27) fun v29 => (some (0, uF1_27, uF7, v29))))))))) else (xb1 (f_X8_notes fu x1 x3.toInt64 (vp_updL uF1 v10.toNatClampNeg ((uF1 v10.toNatClampNeg) + x3.toInt64))) fun uF1_15 => (xb1 (f_X8_restOf x2 uF1_15) fun v17 => (some (0, uF1_15, uF7, v17)))))))) else (xb2 (f_X8_refuses 3 uF7) fun v31 uF7_32 => (some (v31, uF1, uF7_32, uF11)))))) else (xk (xin 1 304) (if (uF1 (1 : Int32).toNatClampNeg) = 0 then (xb2 (f_X8_refuses 1 uF7) fun v128 uF7_129 => (some (v128, uF1, uF7_129, uF11))) else (if x1 = 3 then (xk (xin 1 304) (if (uF1 (1 : Int32).toNatClampNeg) ≤ 1 then (xb1 (f_X8_restOf x2 uF1) fun v98 => (if x3.toInt64 ≤ v98 then (xb1 (f_X8_claimAt x2 (2 + x1)) fun v101 => (xk (xin v101 304) (xk (xin v101 304) (if x1 = 1 then (xb1 (f_X8_claimAt x2 1) fun v110 => (xk (xin v110 304) (xb1 (f_X8_claimAt x2 0) fun v113 => (xk (xin v113 304) (xb1 (f_X8_owes fu ((vp_updL uF1 v101.toNatClampNeg ((uF1 v101.toNatClampNeg) + x3.toInt64)) v110.toNatClampNeg).toInt32 ((vp_updL uF1 v101.toNatClampNeg ((uF1 v101.toNatClampNeg) + x3.toInt64)) v113.toNatClampNeg).toInt32 x3.toInt64 (vp_updL uF1 v101.toNatClampNeg ((uF1 v101.toNatClampNeg) + x3.toInt64))) fun uF1_116 => (xb1 (f_X8_notes fu x1 x3.toInt64 uF1_116) fun uF1_118 => (xb1 (f_X8_restOf x2 uF1_118) fun v120 => (some (0, uF1_118, uF7, v120))))))))) else (xb1 (f_X8_notes fu x1 x3.toInt64 (vp_updL uF1 v101.toNatClampNeg ((uF1 v101.toNatClampNeg) + x3.toInt64))) fun uF1_106 => (xb1 (f_X8_restOf x2 uF1_106) fun v108 => (some (0, uF1_106, uF7, v108)))))))) else (xb2 (f_X8_refuses 3 uF7) fun v122 uF7_123 => (some (v122, uF1, uF7_123, uF11))))) else (xb2 (f_X8_refuses 2 uF7) fun v125 uF7_126 => (some (v125, uF1, uF7_126, uF11))))) else (xb1 (f_X8_restOf x2 uF1) fun v69 => (if x3.toInt64 ≤ v69 then (xb1 (f_X8_claimAt x2 (2 + x1)) fun v72 => (xk (xin v72 304) (xk (xin v72 304) (if x1 = 1 then (xb1 (f_X8_claimAt x2 1) fun v81 => (xk (xin v81 304) (xb1 (f_X8_claimAt x2 0) fun v84 => (xk (xin v84 304) (xb1 (f_X8_owes fu ((vp_updL uF1 v72.toNatClampNeg ((uF1 v72.toNatClampNeg) + x3.toInt64)) v81.toNatClampNeg).toInt32 ((vp_updL uF1 v72.toNatClampNeg ((uF1 v72.toNatClampNeg) + x3.toInt64)) v84.toNatClampNeg).toInt32 x3.toInt64 (vp_updL uF1 v72.toNatClampNeg ((uF1 v72.toNatClampNeg) + x3.toInt64))) fun uF1_87 => (xb1 (f_X8_notes fu x1 x3.toInt64 uF1_87) fun uF1_89 => (xb1 (f_X8_restOf x2 uF1_89) fun v91 => (some (0, uF1_89, uF7, v91))))))))) else (xb1 (f_X8_notes fu x1 x3.toInt64 (vp_updL uF1 v72.toNatClampNeg ((uF1 v72.toNatClampNeg) + x3.toInt64))) fun uF1_77 => (xb1 (f_X8_restOf x2 uF1_77) fun v79 => (some (0, uF1_77, uF7, v79)))))))) else (xb2 (f_X8_refuses 3 uF7) fun v93 uF7_94 => (some (v93, uF1, uF7_94, uF11))))))))) else (some (2, uF1, uF7, uF11))))
set_option maxHeartbeats 4000000 in
set_option maxRecDepth 100000 in
theorem m_X8_deciding {l : Launch} {κ : xKt} {wA : Nat → sAcc} {wT : sTxt} {wG : sRng} {wM : sMai} {wO : sOut} {fu : Nat} {x1 : Int32} {x2 : Int32} {x3 : Int32} {uF0 : Int32} {uF1 : xF64} {uF2 : xF64} {uF3 : xF64} {uF4 : xF64} {uF5 : Int32} {uF6 : Int32} {uF7 : Int32} {uF8 : xF32} {uF9 : Int32} {uF10 : Int32} {uF11 : Int64} {uF12 : xF32} {uF13 : Int32} {uF14 : Int32} {uF15 : Int32} {uF16 : xF32} {uF17 : xF32} {uF18 : Int32} {rr : Int32} {yF1 : xF64} {yF7 : Int32} {yF11 : Int64} (hf : f_X8_deciding fu x1 x2 x3 uF1 uF7 uF11 = some (rr, yF1, yF7, yF11)) : xMi l κ yX8_deciding cX8_deciding 4 (some .int) (xR 3 0 0) [.ref (xAd κ 245), .int x1, .int x2, .int x3] (wA, wT, wG, wM, (uF0, uF1, uF2, uF3, uF4, uF5, uF6, uF7, uF8, uF9, uF10, uF11, uF12, uF13, uF14, uF15, uF16, uF17, uF18), wO) (wA, wT, wG, wM, (uF0, yF1, uF2, uF3, uF4, uF5, uF6, yF7, uF8, uF9, uF10, yF11, uF12, uF13, uF14, uF15, uF16, uF17, uF18), wO) rr := by
  unfold f_X8_deciding at hf
  refine xMi_of pn_X8 (Nat.le_of_ble_eq_true rfl) ⟨rfl, rfl⟩ ?_
  intro A p e s m args below meth c ls Q hc hw hl K
  have hc : xC κ A p s m args meth c cX8_deciding RX8 4 (some .int) := hc
  have hx := hc.1.1
  have hb := hc.1.2.1
  have hl : lv_has ls 4 [(0, .ref (xAd κ 245)), (1, .int x1), (2, .int x2), (3, .int x3)] := hl
  refine lv_aload_n hx hb dX8_deciding_0 rfl (lv_at hl 0 rfl) ?_
  refine lv_iload_n hx hb dX8_deciding_1 rfl (lv_at hl 2 rfl) ?_
  obtain ⟨v1, h2, hf⟩ := xb1_of hf
  refine x_calliV (As := [.int x2]) (rest := []) (σ' := (wA, wT, wG, wM, (uF0, uF1, uF2, uF3, uF4, uF5, uF6, uF7, uF8, uF9, uF10, uF11, uF12, uF13, uF14, uF15, uF16, uF17, uF18), wO)) hc hw hl.1 (m_X8_isClaim h2) kX8_179 co_245 rfl rfl ⟨rfl, rfl⟩ ⟨Nat.le_of_ble_eq_true rfl, Nat.le_of_ble_eq_true rfl⟩ ⟨Nat.zero_le _, Nat.zero_le _⟩ (Nat.le_of_ble_eq_true rfl) dX8_deciding_2 (fun H locs hw => ?_)
  refine lv_if_ne (tgt := 10) hx hb dX8_deciding_5 (by decide) (fun c3 => ?_) (fun c3 => ?_)
  · have hf := xif_f c3 hf
    refine lv_iload_n hx hb dX8_deciding_10 rfl (lv_at hl 3 rfl) ?_
    refine lv_iconst (v := 1) hx hb dX8_deciding_11 (by decide) ?_
    refine lv_icmp_ge (tgt := 17) hx hb dX8_deciding_12 (by decide) (fun c4 => ?_) (fun c4 => ?_)
    · have hf := xif_t c4 hf
      refine lv_iload_n hx hb dX8_deciding_17 rfl (lv_at hl 1 rfl) ?_
      refine lv_iconst (v := 3) hx hb dX8_deciding_18 (by decide) ?_
      refine lv_icmp_ge (tgt := 39) hx hb dX8_deciding_19 (by decide) (fun c5 => ?_) (fun c5 => ?_)
      · have hf := xif_t c5 hf
        refine lv_iload_n hx hb dX8_deciding_39 rfl (lv_at hl 1 rfl) ?_
        refine lv_iconst (v := 3) hx hb dX8_deciding_40 (by decide) ?_
        refine lv_icmp_ne (tgt := 61) hx hb dX8_deciding_41 (by decide) (fun c6 => ?_) (fun c6 => ?_)
        · have hf := xif_f c6 hf
          refine lv_iload_n hx hb dX8_deciding_61 rfl (lv_at hl 3 rfl) ?_
          refine lv_i2l (v := x3.toInt64) hx hb dX8_deciding_62 rfl ?_
          refine lv_aload_n hx hb dX8_deciding_63 rfl (lv_at hl 0 rfl) ?_
          refine lv_iload_n hx hb dX8_deciding_64 rfl (lv_at hl 2 rfl) ?_
          obtain ⟨v7, h8, hf⟩ := xb1_of hf
          refine x_calllV (As := [.int x2]) (rest := [.long x3.toInt64]) (σ' := (wA, wT, wG, wM, (uF0, uF1, uF2, uF3, uF4, uF5, uF6, uF7, uF8, uF9, uF10, uF11, uF12, uF13, uF14, uF15, uF16, uF17, uF18), wO)) hc hw hl.1 (m_X8_restOf h8) kX8_185 co_245 rfl rfl ⟨rfl, rfl⟩ ⟨Nat.le_of_ble_eq_true rfl, Nat.le_of_ble_eq_true rfl⟩ ⟨Nat.zero_le _, Nat.zero_le _⟩ (Nat.le_of_ble_eq_true rfl) dX8_deciding_65 (fun H locs hw => ?_)
          refine x_lcmp_le (tgt := 78) hx hb dX8_deciding_68 dX8_deciding_69 (by decide) (fun c9 => ?_) (fun c9 => ?_)
          · have hf := xif_t c9 hf
            refine lv_aload_n hx hb dX8_deciding_78 rfl (lv_at hl 0 rfl) ?_
            refine x_get (v := .ref (xAd κ 246)) hc hw co_245 fX8_7 rfl dX8_deciding_79 ?_
            refine lv_aload_n hx hb dX8_deciding_82 rfl (lv_at hl 0 rfl) ?_
            refine lv_iload_n hx hb dX8_deciding_83 rfl (lv_at hl 2 rfl) ?_
            refine lv_iconst (v := 2) hx hb dX8_deciding_84 (by decide) ?_
            refine lv_iload_n hx hb dX8_deciding_85 rfl (lv_at hl 1 rfl) ?_
            refine lv_iadd hx hb dX8_deciding_86 ?_
            obtain ⟨v10, h11, hf⟩ := xb1_of hf
            refine x_calliV (As := [.int x2, .int (2 + x1)]) (rest := [.ref (xAd κ 246)]) (σ' := (wA, wT, wG, wM, (uF0, uF1, uF2, uF3, uF4, uF5, uF6, uF7, uF8, uF9, uF10, uF11, uF12, uF13, uF14, uF15, uF16, uF17, uF18), wO)) hc hw hl.1 (m_X8_claimAt h11) kX8_90 co_245 rfl rfl ⟨rfl, rfl⟩ ⟨Nat.le_of_ble_eq_true rfl, Nat.le_of_ble_eq_true rfl⟩ ⟨Nat.zero_le _, Nat.zero_le _⟩ (Nat.le_of_ble_eq_true rfl) dX8_deciding_87 (fun H locs hw => ?_)
            refine lv_dup2_11 hx hb dX8_deciding_90 rfl rfl ?_
            obtain ⟨k12, hf⟩ := xk_of hf
            refine x_lald (n := 304) (f := uF1) hc hw co_246 k12 dX8_deciding_91 ?_
            refine lv_iload_n hx hb dX8_deciding_92 rfl (lv_at hl 3 rfl) ?_
            refine lv_i2l (v := x3.toInt64) hx hb dX8_deciding_93 rfl ?_
            refine lv_ladd hx hb dX8_deciding_94 ?_
            obtain ⟨k13, hf⟩ := xk_of hf
            refine x_last (n := 304) (f := uF1) (σ' := (wA, wT, wG, wM, (uF0, (vp_updL uF1 v10.toNatClampNeg ((uF1 v10.toNatClampNeg) + x3.toInt64)), uF2, uF3, uF4, uF5, uF6, uF7, uF8, uF9, uF10, uF11, uF12, uF13, uF14, uF15, uF16, uF17, uF18), wO)) hc hw co_246 k13 so_F_1 dX8_deciding_95 (fun H locs hw => ?_)
            refine lv_iload_n hx hb dX8_deciding_96 rfl (lv_at hl 1 rfl) ?_
            refine lv_iconst (v := 1) hx hb dX8_deciding_97 (by decide) ?_
            refine lv_icmp_ne (tgt := 131) hx hb dX8_deciding_98 (by decide) (fun c14 => ?_) (fun c14 => ?_)
            · have hf := xif_f c14 hf
              refine lv_aload_n hx hb dX8_deciding_131 rfl (lv_at hl 0 rfl) ?_
              refine lv_iload_n hx hb dX8_deciding_132 rfl (lv_at hl 1 rfl) ?_
              refine lv_iload_n hx hb dX8_deciding_133 rfl (lv_at hl 3 rfl) ?_
              refine lv_i2l (v := x3.toInt64) hx hb dX8_deciding_134 rfl ?_
              obtain ⟨uF1_15, h16, hf⟩ := xb1_of hf
              refine x_callvV (As := [.int x1, .long x3.toInt64]) (rest := []) (σ' := (wA, wT, wG, wM, (uF0, uF1_15, uF2, uF3, uF4, uF5, uF6, uF7, uF8, uF9, uF10, uF11, uF12, uF13, uF14, uF15, uF16, uF17, uF18), wO)) hc hw hl.1 (m_X8_notes h16) kX8_192 co_245 rfl rfl ⟨rfl, rfl⟩ ⟨Nat.le_of_ble_eq_true rfl, Nat.le_of_ble_eq_true rfl⟩ ⟨Nat.zero_le _, Nat.zero_le _⟩ (Nat.le_of_ble_eq_true rfl) dX8_deciding_135 (fun H locs hw => ?_)
              refine lv_aload_n hx hb dX8_deciding_138 rfl (lv_at hl 0 rfl) ?_
              refine lv_aload_n hx hb dX8_deciding_139 rfl (lv_at hl 0 rfl) ?_
              refine lv_iload_n hx hb dX8_deciding_140 rfl (lv_at hl 2 rfl) ?_
              obtain ⟨v17, h18, hf⟩ := xb1_of hf
              refine x_calllV (As := [.int x2]) (rest := [.ref (xAd κ 245)]) (σ' := (wA, wT, wG, wM, (uF0, uF1_15, uF2, uF3, uF4, uF5, uF6, uF7, uF8, uF9, uF10, uF11, uF12, uF13, uF14, uF15, uF16, uF17, uF18), wO)) hc hw hl.1 (m_X8_restOf h18) kX8_185 co_245 rfl rfl ⟨rfl, rfl⟩ ⟨Nat.le_of_ble_eq_true rfl, Nat.le_of_ble_eq_true rfl⟩ ⟨Nat.zero_le _, Nat.zero_le _⟩ (Nat.le_of_ble_eq_true rfl) dX8_deciding_141 (fun H locs hw => ?_)
              refine x_put (σ' := (wA, wT, wG, wM, (uF0, uF1_15, uF2, uF3, uF4, uF5, uF6, uF7, uF8, uF9, uF10, v17, uF12, uF13, uF14, uF15, uF16, uF17, uF18), wO)) hc hw co_245 fX8_175 rfl rfl (Nat.le_of_ble_eq_true rfl) so_F_11 dX8_deciding_144 (fun H locs hw => ?_)
              refine lv_iconst (v := 0) hx hb dX8_deciding_147 (by decide) ?_
              cases hf
              exact K _ _ _ _ dX8_deciding_148 rfl hw
            · have hf := xif_t c14 hf
              refine lv_aload_n hx hb dX8_deciding_101 rfl (lv_at hl 0 rfl) ?_
              refine lv_aload_n hx hb dX8_deciding_102 rfl (lv_at hl 0 rfl) ?_
              refine x_get (v := .ref (xAd κ 246)) hc hw co_245 fX8_7 rfl dX8_deciding_103 ?_
              refine lv_aload_n hx hb dX8_deciding_106 rfl (lv_at hl 0 rfl) ?_
              refine lv_iload_n hx hb dX8_deciding_107 rfl (lv_at hl 2 rfl) ?_
              refine lv_iconst (v := 1) hx hb dX8_deciding_108 (by decide) ?_
              obtain ⟨v19, h20, hf⟩ := xb1_of hf
              refine x_calliV (As := [.int x2, .int 1]) (rest := [.ref (xAd κ 246), .ref (xAd κ 245)]) (σ' := (wA, wT, wG, wM, (uF0, (vp_updL uF1 v10.toNatClampNeg ((uF1 v10.toNatClampNeg) + x3.toInt64)), uF2, uF3, uF4, uF5, uF6, uF7, uF8, uF9, uF10, uF11, uF12, uF13, uF14, uF15, uF16, uF17, uF18), wO)) hc hw hl.1 (m_X8_claimAt h20) kX8_90 co_245 rfl rfl ⟨rfl, rfl⟩ ⟨Nat.le_of_ble_eq_true rfl, Nat.le_of_ble_eq_true rfl⟩ ⟨Nat.zero_le _, Nat.zero_le _⟩ (Nat.le_of_ble_eq_true rfl) dX8_deciding_109 (fun H locs hw => ?_)
              obtain ⟨k21, hf⟩ := xk_of hf
              refine x_lald (n := 304) (f := (vp_updL uF1 v10.toNatClampNeg ((uF1 v10.toNatClampNeg) + x3.toInt64))) hc hw co_246 k21 dX8_deciding_112 ?_
              refine lv_l2i (v := ((vp_updL uF1 v10.toNatClampNeg ((uF1 v10.toNatClampNeg) + x3.toInt64)) v19.toNatClampNeg).toInt32) hx hb dX8_deciding_113 rfl ?_
              refine lv_aload_n hx hb dX8_deciding_114 rfl (lv_at hl 0 rfl) ?_
              refine x_get (v := .ref (xAd κ 246)) hc hw co_245 fX8_7 rfl dX8_deciding_115 ?_
              refine lv_aload_n hx hb dX8_deciding_118 rfl (lv_at hl 0 rfl) ?_
              refine lv_iload_n hx hb dX8_deciding_119 rfl (lv_at hl 2 rfl) ?_
              refine lv_iconst (v := 0) hx hb dX8_deciding_120 (by decide) ?_
              obtain ⟨v22, h23, hf⟩ := xb1_of hf
              refine x_calliV (As := [.int x2, .int 0]) (rest := [.ref (xAd κ 246), .int ((vp_updL uF1 v10.toNatClampNeg ((uF1 v10.toNatClampNeg) + x3.toInt64)) v19.toNatClampNeg).toInt32, .ref (xAd κ 245)]) (σ' := (wA, wT, wG, wM, (uF0, (vp_updL uF1 v10.toNatClampNeg ((uF1 v10.toNatClampNeg) + x3.toInt64)), uF2, uF3, uF4, uF5, uF6, uF7, uF8, uF9, uF10, uF11, uF12, uF13, uF14, uF15, uF16, uF17, uF18), wO)) hc hw hl.1 (m_X8_claimAt h23) kX8_90 co_245 rfl rfl ⟨rfl, rfl⟩ ⟨Nat.le_of_ble_eq_true rfl, Nat.le_of_ble_eq_true rfl⟩ ⟨Nat.zero_le _, Nat.zero_le _⟩ (Nat.le_of_ble_eq_true rfl) dX8_deciding_121 (fun H locs hw => ?_)
              obtain ⟨k24, hf⟩ := xk_of hf
              refine x_lald (n := 304) (f := (vp_updL uF1 v10.toNatClampNeg ((uF1 v10.toNatClampNeg) + x3.toInt64))) hc hw co_246 k24 dX8_deciding_124 ?_
              refine lv_l2i (v := ((vp_updL uF1 v10.toNatClampNeg ((uF1 v10.toNatClampNeg) + x3.toInt64)) v22.toNatClampNeg).toInt32) hx hb dX8_deciding_125 rfl ?_
              refine lv_iload_n hx hb dX8_deciding_126 rfl (lv_at hl 3 rfl) ?_
              refine lv_i2l (v := x3.toInt64) hx hb dX8_deciding_127 rfl ?_
              obtain ⟨uF1_25, h26, hf⟩ := xb1_of hf
              refine x_callvV (As := [.int ((vp_updL uF1 v10.toNatClampNeg ((uF1 v10.toNatClampNeg) + x3.toInt64)) v19.toNatClampNeg).toInt32, .int ((vp_updL uF1 v10.toNatClampNeg ((uF1 v10.toNatClampNeg) + x3.toInt64)) v22.toNatClampNeg).toInt32, .long x3.toInt64]) (rest := []) (σ' := (wA, wT, wG, wM, (uF0, uF1_25, uF2, uF3, uF4, uF5, uF6, uF7, uF8, uF9, uF10, uF11, uF12, uF13, uF14, uF15, uF16, uF17, uF18), wO)) hc hw hl.1 (m_X8_owes h26) kX8_188 co_245 rfl rfl ⟨rfl, rfl⟩ ⟨Nat.le_of_ble_eq_true rfl, Nat.le_of_ble_eq_true rfl⟩ ⟨Nat.zero_le _, Nat.zero_le _⟩ (Nat.le_of_ble_eq_true rfl) dX8_deciding_128 (fun H locs hw => ?_)
              refine lv_aload_n hx hb dX8_deciding_131 rfl (lv_at hl 0 rfl) ?_
              refine lv_iload_n hx hb dX8_deciding_132 rfl (lv_at hl 1 rfl) ?_
              refine lv_iload_n hx hb dX8_deciding_133 rfl (lv_at hl 3 rfl) ?_
              refine lv_i2l (v := x3.toInt64) hx hb dX8_deciding_134 rfl ?_
              obtain ⟨uF1_27, h28, hf⟩ := xb1_of hf
              refine x_callvV (As := [.int x1, .long x3.toInt64]) (rest := []) (σ' := (wA, wT, wG, wM, (uF0, uF1_27, uF2, uF3, uF4, uF5, uF6, uF7, uF8, uF9, uF10, uF11, uF12, uF13, uF14, uF15, uF16, uF17, uF18), wO)) hc hw hl.1 (m_X8_notes h28) kX8_192 co_245 rfl rfl ⟨rfl, rfl⟩ ⟨Nat.le_of_ble_eq_true rfl, Nat.le_of_ble_eq_true rfl⟩ ⟨Nat.zero_le _, Nat.zero_le _⟩ (Nat.le_of_ble_eq_true rfl) dX8_deciding_135 (fun H locs hw => ?_)
              refine lv_aload_n hx hb dX8_deciding_138 rfl (lv_at hl 0 rfl) ?_
              refine lv_aload_n hx hb dX8_deciding_139 rfl (lv_at hl 0 rfl) ?_
              refine lv_iload_n hx hb dX8_deciding_140 rfl (lv_at hl 2 rfl) ?_
              obtain ⟨v29, h30, hf⟩ := xb1_of hf
              refine x_calllV (As := [.int x2]) (rest := [.ref (xAd κ 245)]) (σ' := (wA, wT, wG, wM, (uF0, uF1_27, uF2, uF3, uF4, uF5, uF6, uF7, uF8, uF9, uF10, uF11, uF12, uF13, uF14, uF15, uF16, uF17, uF18), wO)) hc hw hl.1 (m_X8_restOf h30) kX8_185 co_245 rfl rfl ⟨rfl, rfl⟩ ⟨Nat.le_of_ble_eq_true rfl, Nat.le_of_ble_eq_true rfl⟩ ⟨Nat.zero_le _, Nat.zero_le _⟩ (Nat.le_of_ble_eq_true rfl) dX8_deciding_141 (fun H locs hw => ?_)
              refine x_put (σ' := (wA, wT, wG, wM, (uF0, uF1_27, uF2, uF3, uF4, uF5, uF6, uF7, uF8, uF9, uF10, v29, uF12, uF13, uF14, uF15, uF16, uF17, uF18), wO)) hc hw co_245 fX8_175 rfl rfl (Nat.le_of_ble_eq_true rfl) so_F_11 dX8_deciding_144 (fun H locs hw => ?_)
              refine lv_iconst (v := 0) hx hb dX8_deciding_147 (by decide) ?_
              cases hf
              exact K _ _ _ _ dX8_deciding_148 rfl hw
          · have hf := xif_f c9 hf
            refine lv_aload_n hx hb dX8_deciding_72 rfl (lv_at hl 0 rfl) ?_
            refine lv_iconst (v := 3) hx hb dX8_deciding_73 (by decide) ?_
            obtain ⟨v31, uF7_32, h33, hf⟩ := xb2_of hf
            refine x_calliV (As := [.int 3]) (rest := []) (σ' := (wA, wT, wG, wM, (uF0, uF1, uF2, uF3, uF4, uF5, uF6, uF7_32, uF8, uF9, uF10, uF11, uF12, uF13, uF14, uF15, uF16, uF17, uF18), wO)) hc hw hl.1 (m_X8_refuses h33) kX8_182 co_245 rfl rfl ⟨rfl, rfl⟩ ⟨Nat.le_of_ble_eq_true rfl, Nat.le_of_ble_eq_true rfl⟩ ⟨Nat.zero_le _, Nat.zero_le _⟩ (Nat.le_of_ble_eq_true rfl) dX8_deciding_74 (fun H locs hw => ?_)
            cases hf
            exact K _ _ _ _ dX8_deciding_77 rfl hw
        · have hf := xif_t c6 hf
          refine lv_aload_n hx hb dX8_deciding_44 rfl (lv_at hl 0 rfl) ?_
          refine x_get (v := .ref (xAd κ 246)) hc hw co_245 fX8_7 rfl dX8_deciding_45 ?_
          refine lv_iconst (v := 1) hx hb dX8_deciding_48 (by decide) ?_
          obtain ⟨k34, hf⟩ := xk_of hf
          refine x_lald (n := 304) (f := uF1) hc hw co_246 k34 dX8_deciding_49 ?_
          refine lv_lconst (v := 1) hx hb dX8_deciding_50 (by decide) ?_
          refine x_lcmp_le (tgt := 61) hx hb dX8_deciding_51 dX8_deciding_52 (by decide) (fun c35 => ?_) (fun c35 => ?_)
          · have hf := xif_t c35 hf
            refine lv_iload_n hx hb dX8_deciding_61 rfl (lv_at hl 3 rfl) ?_
            refine lv_i2l (v := x3.toInt64) hx hb dX8_deciding_62 rfl ?_
            refine lv_aload_n hx hb dX8_deciding_63 rfl (lv_at hl 0 rfl) ?_
            refine lv_iload_n hx hb dX8_deciding_64 rfl (lv_at hl 2 rfl) ?_
            obtain ⟨v36, h37, hf⟩ := xb1_of hf
            refine x_calllV (As := [.int x2]) (rest := [.long x3.toInt64]) (σ' := (wA, wT, wG, wM, (uF0, uF1, uF2, uF3, uF4, uF5, uF6, uF7, uF8, uF9, uF10, uF11, uF12, uF13, uF14, uF15, uF16, uF17, uF18), wO)) hc hw hl.1 (m_X8_restOf h37) kX8_185 co_245 rfl rfl ⟨rfl, rfl⟩ ⟨Nat.le_of_ble_eq_true rfl, Nat.le_of_ble_eq_true rfl⟩ ⟨Nat.zero_le _, Nat.zero_le _⟩ (Nat.le_of_ble_eq_true rfl) dX8_deciding_65 (fun H locs hw => ?_)
            refine x_lcmp_le (tgt := 78) hx hb dX8_deciding_68 dX8_deciding_69 (by decide) (fun c38 => ?_) (fun c38 => ?_)
            · have hf := xif_t c38 hf
              refine lv_aload_n hx hb dX8_deciding_78 rfl (lv_at hl 0 rfl) ?_
              refine x_get (v := .ref (xAd κ 246)) hc hw co_245 fX8_7 rfl dX8_deciding_79 ?_
              refine lv_aload_n hx hb dX8_deciding_82 rfl (lv_at hl 0 rfl) ?_
              refine lv_iload_n hx hb dX8_deciding_83 rfl (lv_at hl 2 rfl) ?_
              refine lv_iconst (v := 2) hx hb dX8_deciding_84 (by decide) ?_
              refine lv_iload_n hx hb dX8_deciding_85 rfl (lv_at hl 1 rfl) ?_
              refine lv_iadd hx hb dX8_deciding_86 ?_
              obtain ⟨v39, h40, hf⟩ := xb1_of hf
              refine x_calliV (As := [.int x2, .int (2 + x1)]) (rest := [.ref (xAd κ 246)]) (σ' := (wA, wT, wG, wM, (uF0, uF1, uF2, uF3, uF4, uF5, uF6, uF7, uF8, uF9, uF10, uF11, uF12, uF13, uF14, uF15, uF16, uF17, uF18), wO)) hc hw hl.1 (m_X8_claimAt h40) kX8_90 co_245 rfl rfl ⟨rfl, rfl⟩ ⟨Nat.le_of_ble_eq_true rfl, Nat.le_of_ble_eq_true rfl⟩ ⟨Nat.zero_le _, Nat.zero_le _⟩ (Nat.le_of_ble_eq_true rfl) dX8_deciding_87 (fun H locs hw => ?_)
              refine lv_dup2_11 hx hb dX8_deciding_90 rfl rfl ?_
              obtain ⟨k41, hf⟩ := xk_of hf
              refine x_lald (n := 304) (f := uF1) hc hw co_246 k41 dX8_deciding_91 ?_
              refine lv_iload_n hx hb dX8_deciding_92 rfl (lv_at hl 3 rfl) ?_
              refine lv_i2l (v := x3.toInt64) hx hb dX8_deciding_93 rfl ?_
              refine lv_ladd hx hb dX8_deciding_94 ?_
              obtain ⟨k42, hf⟩ := xk_of hf
              refine x_last (n := 304) (f := uF1) (σ' := (wA, wT, wG, wM, (uF0, (vp_updL uF1 v39.toNatClampNeg ((uF1 v39.toNatClampNeg) + x3.toInt64)), uF2, uF3, uF4, uF5, uF6, uF7, uF8, uF9, uF10, uF11, uF12, uF13, uF14, uF15, uF16, uF17, uF18), wO)) hc hw co_246 k42 so_F_1 dX8_deciding_95 (fun H locs hw => ?_)
              refine lv_iload_n hx hb dX8_deciding_96 rfl (lv_at hl 1 rfl) ?_
              refine lv_iconst (v := 1) hx hb dX8_deciding_97 (by decide) ?_
              refine lv_icmp_ne (tgt := 131) hx hb dX8_deciding_98 (by decide) (fun c43 => ?_) (fun c43 => ?_)
              · have hf := xif_f c43 hf
                refine lv_aload_n hx hb dX8_deciding_131 rfl (lv_at hl 0 rfl) ?_
                refine lv_iload_n hx hb dX8_deciding_132 rfl (lv_at hl 1 rfl) ?_
                refine lv_iload_n hx hb dX8_deciding_133 rfl (lv_at hl 3 rfl) ?_
                refine lv_i2l (v := x3.toInt64) hx hb dX8_deciding_134 rfl ?_
                obtain ⟨uF1_44, h45, hf⟩ := xb1_of hf
                refine x_callvV (As := [.int x1, .long x3.toInt64]) (rest := []) (σ' := (wA, wT, wG, wM, (uF0, uF1_44, uF2, uF3, uF4, uF5, uF6, uF7, uF8, uF9, uF10, uF11, uF12, uF13, uF14, uF15, uF16, uF17, uF18), wO)) hc hw hl.1 (m_X8_notes h45) kX8_192 co_245 rfl rfl ⟨rfl, rfl⟩ ⟨Nat.le_of_ble_eq_true rfl, Nat.le_of_ble_eq_true rfl⟩ ⟨Nat.zero_le _, Nat.zero_le _⟩ (Nat.le_of_ble_eq_true rfl) dX8_deciding_135 (fun H locs hw => ?_)
                refine lv_aload_n hx hb dX8_deciding_138 rfl (lv_at hl 0 rfl) ?_
                refine lv_aload_n hx hb dX8_deciding_139 rfl (lv_at hl 0 rfl) ?_
                refine lv_iload_n hx hb dX8_deciding_140 rfl (lv_at hl 2 rfl) ?_
                obtain ⟨v46, h47, hf⟩ := xb1_of hf
                refine x_calllV (As := [.int x2]) (rest := [.ref (xAd κ 245)]) (σ' := (wA, wT, wG, wM, (uF0, uF1_44, uF2, uF3, uF4, uF5, uF6, uF7, uF8, uF9, uF10, uF11, uF12, uF13, uF14, uF15, uF16, uF17, uF18), wO)) hc hw hl.1 (m_X8_restOf h47) kX8_185 co_245 rfl rfl ⟨rfl, rfl⟩ ⟨Nat.le_of_ble_eq_true rfl, Nat.le_of_ble_eq_true rfl⟩ ⟨Nat.zero_le _, Nat.zero_le _⟩ (Nat.le_of_ble_eq_true rfl) dX8_deciding_141 (fun H locs hw => ?_)
                refine x_put (σ' := (wA, wT, wG, wM, (uF0, uF1_44, uF2, uF3, uF4, uF5, uF6, uF7, uF8, uF9, uF10, v46, uF12, uF13, uF14, uF15, uF16, uF17, uF18), wO)) hc hw co_245 fX8_175 rfl rfl (Nat.le_of_ble_eq_true rfl) so_F_11 dX8_deciding_144 (fun H locs hw => ?_)
                refine lv_iconst (v := 0) hx hb dX8_deciding_147 (by decide) ?_
                cases hf
                exact K _ _ _ _ dX8_deciding_148 rfl hw
              · have hf := xif_t c43 hf
                refine lv_aload_n hx hb dX8_deciding_101 rfl (lv_at hl 0 rfl) ?_
                refine lv_aload_n hx hb dX8_deciding_102 rfl (lv_at hl 0 rfl) ?_
                refine x_get (v := .ref (xAd κ 246)) hc hw co_245 fX8_7 rfl dX8_deciding_103 ?_
                refine lv_aload_n hx hb dX8_deciding_106 rfl (lv_at hl 0 rfl) ?_
                refine lv_iload_n hx hb dX8_deciding_107 rfl (lv_at hl 2 rfl) ?_
                refine lv_iconst (v := 1) hx hb dX8_deciding_108 (by decide) ?_
                obtain ⟨v48, h49, hf⟩ := xb1_of hf
                refine x_calliV (As := [.int x2, .int 1]) (rest := [.ref (xAd κ 246), .ref (xAd κ 245)]) (σ' := (wA, wT, wG, wM, (uF0, (vp_updL uF1 v39.toNatClampNeg ((uF1 v39.toNatClampNeg) + x3.toInt64)), uF2, uF3, uF4, uF5, uF6, uF7, uF8, uF9, uF10, uF11, uF12, uF13, uF14, uF15, uF16, uF17, uF18), wO)) hc hw hl.1 (m_X8_claimAt h49) kX8_90 co_245 rfl rfl ⟨rfl, rfl⟩ ⟨Nat.le_of_ble_eq_true rfl, Nat.le_of_ble_eq_true rfl⟩ ⟨Nat.zero_le _, Nat.zero_le _⟩ (Nat.le_of_ble_eq_true rfl) dX8_deciding_109 (fun H locs hw => ?_)
                obtain ⟨k50, hf⟩ := xk_of hf
                refine x_lald (n := 304) (f := (vp_updL uF1 v39.toNatClampNeg ((uF1 v39.toNatClampNeg) + x3.toInt64))) hc hw co_246 k50 dX8_deciding_112 ?_
                refine lv_l2i (v := ((vp_updL uF1 v39.toNatClampNeg ((uF1 v39.toNatClampNeg) + x3.toInt64)) v48.toNatClampNeg).toInt32) hx hb dX8_deciding_113 rfl ?_
                refine lv_aload_n hx hb dX8_deciding_114 rfl (lv_at hl 0 rfl) ?_
                refine x_get (v := .ref (xAd κ 246)) hc hw co_245 fX8_7 rfl dX8_deciding_115 ?_
                refine lv_aload_n hx hb dX8_deciding_118 rfl (lv_at hl 0 rfl) ?_
                refine lv_iload_n hx hb dX8_deciding_119 rfl (lv_at hl 2 rfl) ?_
                refine lv_iconst (v := 0) hx hb dX8_deciding_120 (by decide) ?_
                obtain ⟨v51, h52, hf⟩ := xb1_of hf
                refine x_calliV (As := [.int x2, .int 0]) (rest := [.ref (xAd κ 246), .int ((vp_updL uF1 v39.toNatClampNeg ((uF1 v39.toNatClampNeg) + x3.toInt64)) v48.toNatClampNeg).toInt32, .ref (xAd κ 245)]) (σ' := (wA, wT, wG, wM, (uF0, (vp_updL uF1 v39.toNatClampNeg ((uF1 v39.toNatClampNeg) + x3.toInt64)), uF2, uF3, uF4, uF5, uF6, uF7, uF8, uF9, uF10, uF11, uF12, uF13, uF14, uF15, uF16, uF17, uF18), wO)) hc hw hl.1 (m_X8_claimAt h52) kX8_90 co_245 rfl rfl ⟨rfl, rfl⟩ ⟨Nat.le_of_ble_eq_true rfl, Nat.le_of_ble_eq_true rfl⟩ ⟨Nat.zero_le _, Nat.zero_le _⟩ (Nat.le_of_ble_eq_true rfl) dX8_deciding_121 (fun H locs hw => ?_)
                obtain ⟨k53, hf⟩ := xk_of hf
                refine x_lald (n := 304) (f := (vp_updL uF1 v39.toNatClampNeg ((uF1 v39.toNatClampNeg) + x3.toInt64))) hc hw co_246 k53 dX8_deciding_124 ?_
                refine lv_l2i (v := ((vp_updL uF1 v39.toNatClampNeg ((uF1 v39.toNatClampNeg) + x3.toInt64)) v51.toNatClampNeg).toInt32) hx hb dX8_deciding_125 rfl ?_
                refine lv_iload_n hx hb dX8_deciding_126 rfl (lv_at hl 3 rfl) ?_
                refine lv_i2l (v := x3.toInt64) hx hb dX8_deciding_127 rfl ?_
                obtain ⟨uF1_54, h55, hf⟩ := xb1_of hf
                refine x_callvV (As := [.int ((vp_updL uF1 v39.toNatClampNeg ((uF1 v39.toNatClampNeg) + x3.toInt64)) v48.toNatClampNeg).toInt32, .int ((vp_updL uF1 v39.toNatClampNeg ((uF1 v39.toNatClampNeg) + x3.toInt64)) v51.toNatClampNeg).toInt32, .long x3.toInt64]) (rest := []) (σ' := (wA, wT, wG, wM, (uF0, uF1_54, uF2, uF3, uF4, uF5, uF6, uF7, uF8, uF9, uF10, uF11, uF12, uF13, uF14, uF15, uF16, uF17, uF18), wO)) hc hw hl.1 (m_X8_owes h55) kX8_188 co_245 rfl rfl ⟨rfl, rfl⟩ ⟨Nat.le_of_ble_eq_true rfl, Nat.le_of_ble_eq_true rfl⟩ ⟨Nat.zero_le _, Nat.zero_le _⟩ (Nat.le_of_ble_eq_true rfl) dX8_deciding_128 (fun H locs hw => ?_)
                refine lv_aload_n hx hb dX8_deciding_131 rfl (lv_at hl 0 rfl) ?_
                refine lv_iload_n hx hb dX8_deciding_132 rfl (lv_at hl 1 rfl) ?_
                refine lv_iload_n hx hb dX8_deciding_133 rfl (lv_at hl 3 rfl) ?_
                refine lv_i2l (v := x3.toInt64) hx hb dX8_deciding_134 rfl ?_
                obtain ⟨uF1_56, h57, hf⟩ := xb1_of hf
                refine x_callvV (As := [.int x1, .long x3.toInt64]) (rest := []) (σ' := (wA, wT, wG, wM, (uF0, uF1_56, uF2, uF3, uF4, uF5, uF6, uF7, uF8, uF9, uF10, uF11, uF12, uF13, uF14, uF15, uF16, uF17, uF18), wO)) hc hw hl.1 (m_X8_notes h57) kX8_192 co_245 rfl rfl ⟨rfl, rfl⟩ ⟨Nat.le_of_ble_eq_true rfl, Nat.le_of_ble_eq_true rfl⟩ ⟨Nat.zero_le _, Nat.zero_le _⟩ (Nat.le_of_ble_eq_true rfl) dX8_deciding_135 (fun H locs hw => ?_)
                refine lv_aload_n hx hb dX8_deciding_138 rfl (lv_at hl 0 rfl) ?_
                refine lv_aload_n hx hb dX8_deciding_139 rfl (lv_at hl 0 rfl) ?_
                refine lv_iload_n hx hb dX8_deciding_140 rfl (lv_at hl 2 rfl) ?_
                obtain ⟨v58, h59, hf⟩ := xb1_of hf
                refine x_calllV (As := [.int x2]) (rest := [.ref (xAd κ 245)]) (σ' := (wA, wT, wG, wM, (uF0, uF1_56, uF2, uF3, uF4, uF5, uF6, uF7, uF8, uF9, uF10, uF11, uF12, uF13, uF14, uF15, uF16, uF17, uF18), wO)) hc hw hl.1 (m_X8_restOf h59) kX8_185 co_245 rfl rfl ⟨rfl, rfl⟩ ⟨Nat.le_of_ble_eq_true rfl, Nat.le_of_ble_eq_true rfl⟩ ⟨Nat.zero_le _, Nat.zero_le _⟩ (Nat.le_of_ble_eq_true rfl) dX8_deciding_141 (fun H locs hw => ?_)
                refine x_put (σ' := (wA, wT, wG, wM, (uF0, uF1_56, uF2, uF3, uF4, uF5, uF6, uF7, uF8, uF9, uF10, v58, uF12, uF13, uF14, uF15, uF16, uF17, uF18), wO)) hc hw co_245 fX8_175 rfl rfl (Nat.le_of_ble_eq_true rfl) so_F_11 dX8_deciding_144 (fun H locs hw => ?_)
                refine lv_iconst (v := 0) hx hb dX8_deciding_147 (by decide) ?_
                cases hf
                exact K _ _ _ _ dX8_deciding_148 rfl hw
            · have hf := xif_f c38 hf
              refine lv_aload_n hx hb dX8_deciding_72 rfl (lv_at hl 0 rfl) ?_
              refine lv_iconst (v := 3) hx hb dX8_deciding_73 (by decide) ?_
              obtain ⟨v60, uF7_61, h62, hf⟩ := xb2_of hf
              refine x_calliV (As := [.int 3]) (rest := []) (σ' := (wA, wT, wG, wM, (uF0, uF1, uF2, uF3, uF4, uF5, uF6, uF7_61, uF8, uF9, uF10, uF11, uF12, uF13, uF14, uF15, uF16, uF17, uF18), wO)) hc hw hl.1 (m_X8_refuses h62) kX8_182 co_245 rfl rfl ⟨rfl, rfl⟩ ⟨Nat.le_of_ble_eq_true rfl, Nat.le_of_ble_eq_true rfl⟩ ⟨Nat.zero_le _, Nat.zero_le _⟩ (Nat.le_of_ble_eq_true rfl) dX8_deciding_74 (fun H locs hw => ?_)
              cases hf
              exact K _ _ _ _ dX8_deciding_77 rfl hw
          · have hf := xif_f c35 hf
            refine lv_aload_n hx hb dX8_deciding_55 rfl (lv_at hl 0 rfl) ?_
            refine lv_iconst (v := 2) hx hb dX8_deciding_56 (by decide) ?_
            obtain ⟨v63, uF7_64, h65, hf⟩ := xb2_of hf
            refine x_calliV (As := [.int 2]) (rest := []) (σ' := (wA, wT, wG, wM, (uF0, uF1, uF2, uF3, uF4, uF5, uF6, uF7_64, uF8, uF9, uF10, uF11, uF12, uF13, uF14, uF15, uF16, uF17, uF18), wO)) hc hw hl.1 (m_X8_refuses h65) kX8_182 co_245 rfl rfl ⟨rfl, rfl⟩ ⟨Nat.le_of_ble_eq_true rfl, Nat.le_of_ble_eq_true rfl⟩ ⟨Nat.zero_le _, Nat.zero_le _⟩ (Nat.le_of_ble_eq_true rfl) dX8_deciding_57 (fun H locs hw => ?_)
            cases hf
            exact K _ _ _ _ dX8_deciding_60 rfl hw
      · have hf := xif_f c5 hf
        refine lv_aload_n hx hb dX8_deciding_22 rfl (lv_at hl 0 rfl) ?_
        refine x_get (v := .ref (xAd κ 246)) hc hw co_245 fX8_7 rfl dX8_deciding_23 ?_
        refine lv_iconst (v := 1) hx hb dX8_deciding_26 (by decide) ?_
        obtain ⟨k66, hf⟩ := xk_of hf
        refine x_lald (n := 304) (f := uF1) hc hw co_246 k66 dX8_deciding_27 ?_
        refine lv_lconst (v := 0) hx hb dX8_deciding_28 (by decide) ?_
        refine x_lcmp_ne (tgt := 39) hx hb dX8_deciding_29 dX8_deciding_30 (by decide) (fun c67 => ?_) (fun c67 => ?_)
        · have hf := xif_f c67 hf
          refine lv_iload_n hx hb dX8_deciding_39 rfl (lv_at hl 1 rfl) ?_
          refine lv_iconst (v := 3) hx hb dX8_deciding_40 (by decide) ?_
          refine lv_icmp_ne (tgt := 61) hx hb dX8_deciding_41 (by decide) (fun c68 => ?_) (fun c68 => ?_)
          · have hf := xif_f c68 hf
            refine lv_iload_n hx hb dX8_deciding_61 rfl (lv_at hl 3 rfl) ?_
            refine lv_i2l (v := x3.toInt64) hx hb dX8_deciding_62 rfl ?_
            refine lv_aload_n hx hb dX8_deciding_63 rfl (lv_at hl 0 rfl) ?_
            refine lv_iload_n hx hb dX8_deciding_64 rfl (lv_at hl 2 rfl) ?_
            obtain ⟨v69, h70, hf⟩ := xb1_of hf
            refine x_calllV (As := [.int x2]) (rest := [.long x3.toInt64]) (σ' := (wA, wT, wG, wM, (uF0, uF1, uF2, uF3, uF4, uF5, uF6, uF7, uF8, uF9, uF10, uF11, uF12, uF13, uF14, uF15, uF16, uF17, uF18), wO)) hc hw hl.1 (m_X8_restOf h70) kX8_185 co_245 rfl rfl ⟨rfl, rfl⟩ ⟨Nat.le_of_ble_eq_true rfl, Nat.le_of_ble_eq_true rfl⟩ ⟨Nat.zero_le _, Nat.zero_le _⟩ (Nat.le_of_ble_eq_true rfl) dX8_deciding_65 (fun H locs hw => ?_)
            refine x_lcmp_le (tgt := 78) hx hb dX8_deciding_68 dX8_deciding_69 (by decide) (fun c71 => ?_) (fun c71 => ?_)
            · have hf := xif_t c71 hf
              refine lv_aload_n hx hb dX8_deciding_78 rfl (lv_at hl 0 rfl) ?_
              refine x_get (v := .ref (xAd κ 246)) hc hw co_245 fX8_7 rfl dX8_deciding_79 ?_
              refine lv_aload_n hx hb dX8_deciding_82 rfl (lv_at hl 0 rfl) ?_
              refine lv_iload_n hx hb dX8_deciding_83 rfl (lv_at hl 2 rfl) ?_
              refine lv_iconst (v := 2) hx hb dX8_deciding_84 (by decide) ?_
              refine lv_iload_n hx hb dX8_deciding_85 rfl (lv_at hl 1 rfl) ?_
              refine lv_iadd hx hb dX8_deciding_86 ?_
              obtain ⟨v72, h73, hf⟩ := xb1_of hf
              refine x_calliV (As := [.int x2, .int (2 + x1)]) (rest := [.ref (xAd κ 246)]) (σ' := (wA, wT, wG, wM, (uF0, uF1, uF2, uF3, uF4, uF5, uF6, uF7, uF8, uF9, uF10, uF11, uF12, uF13, uF14, uF15, uF16, uF17, uF18), wO)) hc hw hl.1 (m_X8_claimAt h73) kX8_90 co_245 rfl rfl ⟨rfl, rfl⟩ ⟨Nat.le_of_ble_eq_true rfl, Nat.le_of_ble_eq_true rfl⟩ ⟨Nat.zero_le _, Nat.zero_le _⟩ (Nat.le_of_ble_eq_true rfl) dX8_deciding_87 (fun H locs hw => ?_)
              refine lv_dup2_11 hx hb dX8_deciding_90 rfl rfl ?_
              obtain ⟨k74, hf⟩ := xk_of hf
              refine x_lald (n := 304) (f := uF1) hc hw co_246 k74 dX8_deciding_91 ?_
              refine lv_iload_n hx hb dX8_deciding_92 rfl (lv_at hl 3 rfl) ?_
              refine lv_i2l (v := x3.toInt64) hx hb dX8_deciding_93 rfl ?_
              refine lv_ladd hx hb dX8_deciding_94 ?_
              obtain ⟨k75, hf⟩ := xk_of hf
              refine x_last (n := 304) (f := uF1) (σ' := (wA, wT, wG, wM, (uF0, (vp_updL uF1 v72.toNatClampNeg ((uF1 v72.toNatClampNeg) + x3.toInt64)), uF2, uF3, uF4, uF5, uF6, uF7, uF8, uF9, uF10, uF11, uF12, uF13, uF14, uF15, uF16, uF17, uF18), wO)) hc hw co_246 k75 so_F_1 dX8_deciding_95 (fun H locs hw => ?_)
              refine lv_iload_n hx hb dX8_deciding_96 rfl (lv_at hl 1 rfl) ?_
              refine lv_iconst (v := 1) hx hb dX8_deciding_97 (by decide) ?_
              refine lv_icmp_ne (tgt := 131) hx hb dX8_deciding_98 (by decide) (fun c76 => ?_) (fun c76 => ?_)
              · have hf := xif_f c76 hf
                refine lv_aload_n hx hb dX8_deciding_131 rfl (lv_at hl 0 rfl) ?_
                refine lv_iload_n hx hb dX8_deciding_132 rfl (lv_at hl 1 rfl) ?_
                refine lv_iload_n hx hb dX8_deciding_133 rfl (lv_at hl 3 rfl) ?_
                refine lv_i2l (v := x3.toInt64) hx hb dX8_deciding_134 rfl ?_
                obtain ⟨uF1_77, h78, hf⟩ := xb1_of hf
                refine x_callvV (As := [.int x1, .long x3.toInt64]) (rest := []) (σ' := (wA, wT, wG, wM, (uF0, uF1_77, uF2, uF3, uF4, uF5, uF6, uF7, uF8, uF9, uF10, uF11, uF12, uF13, uF14, uF15, uF16, uF17, uF18), wO)) hc hw hl.1 (m_X8_notes h78) kX8_192 co_245 rfl rfl ⟨rfl, rfl⟩ ⟨Nat.le_of_ble_eq_true rfl, Nat.le_of_ble_eq_true rfl⟩ ⟨Nat.zero_le _, Nat.zero_le _⟩ (Nat.le_of_ble_eq_true rfl) dX8_deciding_135 (fun H locs hw => ?_)
                refine lv_aload_n hx hb dX8_deciding_138 rfl (lv_at hl 0 rfl) ?_
                refine lv_aload_n hx hb dX8_deciding_139 rfl (lv_at hl 0 rfl) ?_
                refine lv_iload_n hx hb dX8_deciding_140 rfl (lv_at hl 2 rfl) ?_
                obtain ⟨v79, h80, hf⟩ := xb1_of hf
                refine x_calllV (As := [.int x2]) (rest := [.ref (xAd κ 245)]) (σ' := (wA, wT, wG, wM, (uF0, uF1_77, uF2, uF3, uF4, uF5, uF6, uF7, uF8, uF9, uF10, uF11, uF12, uF13, uF14, uF15, uF16, uF17, uF18), wO)) hc hw hl.1 (m_X8_restOf h80) kX8_185 co_245 rfl rfl ⟨rfl, rfl⟩ ⟨Nat.le_of_ble_eq_true rfl, Nat.le_of_ble_eq_true rfl⟩ ⟨Nat.zero_le _, Nat.zero_le _⟩ (Nat.le_of_ble_eq_true rfl) dX8_deciding_141 (fun H locs hw => ?_)
                refine x_put (σ' := (wA, wT, wG, wM, (uF0, uF1_77, uF2, uF3, uF4, uF5, uF6, uF7, uF8, uF9, uF10, v79, uF12, uF13, uF14, uF15, uF16, uF17, uF18), wO)) hc hw co_245 fX8_175 rfl rfl (Nat.le_of_ble_eq_true rfl) so_F_11 dX8_deciding_144 (fun H locs hw => ?_)
                refine lv_iconst (v := 0) hx hb dX8_deciding_147 (by decide) ?_
                cases hf
                exact K _ _ _ _ dX8_deciding_148 rfl hw
              · have hf := xif_t c76 hf
                refine lv_aload_n hx hb dX8_deciding_101 rfl (lv_at hl 0 rfl) ?_
                refine lv_aload_n hx hb dX8_deciding_102 rfl (lv_at hl 0 rfl) ?_
                refine x_get (v := .ref (xAd κ 246)) hc hw co_245 fX8_7 rfl dX8_deciding_103 ?_
                refine lv_aload_n hx hb dX8_deciding_106 rfl (lv_at hl 0 rfl) ?_
                refine lv_iload_n hx hb dX8_deciding_107 rfl (lv_at hl 2 rfl) ?_
                refine lv_iconst (v := 1) hx hb dX8_deciding_108 (by decide) ?_
                obtain ⟨v81, h82, hf⟩ := xb1_of hf
                refine x_calliV (As := [.int x2, .int 1]) (rest := [.ref (xAd κ 246), .ref (xAd κ 245)]) (σ' := (wA, wT, wG, wM, (uF0, (vp_updL uF1 v72.toNatClampNeg ((uF1 v72.toNatClampNeg) + x3.toInt64)), uF2, uF3, uF4, uF5, uF6, uF7, uF8, uF9, uF10, uF11, uF12, uF13, uF14, uF15, uF16, uF17, uF18), wO)) hc hw hl.1 (m_X8_claimAt h82) kX8_90 co_245 rfl rfl ⟨rfl, rfl⟩ ⟨Nat.le_of_ble_eq_true rfl, Nat.le_of_ble_eq_true rfl⟩ ⟨Nat.zero_le _, Nat.zero_le _⟩ (Nat.le_of_ble_eq_true rfl) dX8_deciding_109 (fun H locs hw => ?_)
                obtain ⟨k83, hf⟩ := xk_of hf
                refine x_lald (n := 304) (f := (vp_updL uF1 v72.toNatClampNeg ((uF1 v72.toNatClampNeg) + x3.toInt64))) hc hw co_246 k83 dX8_deciding_112 ?_
                refine lv_l2i (v := ((vp_updL uF1 v72.toNatClampNeg ((uF1 v72.toNatClampNeg) + x3.toInt64)) v81.toNatClampNeg).toInt32) hx hb dX8_deciding_113 rfl ?_
                refine lv_aload_n hx hb dX8_deciding_114 rfl (lv_at hl 0 rfl) ?_
                refine x_get (v := .ref (xAd κ 246)) hc hw co_245 fX8_7 rfl dX8_deciding_115 ?_
                refine lv_aload_n hx hb dX8_deciding_118 rfl (lv_at hl 0 rfl) ?_
                refine lv_iload_n hx hb dX8_deciding_119 rfl (lv_at hl 2 rfl) ?_
                refine lv_iconst (v := 0) hx hb dX8_deciding_120 (by decide) ?_
                obtain ⟨v84, h85, hf⟩ := xb1_of hf
                refine x_calliV (As := [.int x2, .int 0]) (rest := [.ref (xAd κ 246), .int ((vp_updL uF1 v72.toNatClampNeg ((uF1 v72.toNatClampNeg) + x3.toInt64)) v81.toNatClampNeg).toInt32, .ref (xAd κ 245)]) (σ' := (wA, wT, wG, wM, (uF0, (vp_updL uF1 v72.toNatClampNeg ((uF1 v72.toNatClampNeg) + x3.toInt64)), uF2, uF3, uF4, uF5, uF6, uF7, uF8, uF9, uF10, uF11, uF12, uF13, uF14, uF15, uF16, uF17, uF18), wO)) hc hw hl.1 (m_X8_claimAt h85) kX8_90 co_245 rfl rfl ⟨rfl, rfl⟩ ⟨Nat.le_of_ble_eq_true rfl, Nat.le_of_ble_eq_true rfl⟩ ⟨Nat.zero_le _, Nat.zero_le _⟩ (Nat.le_of_ble_eq_true rfl) dX8_deciding_121 (fun H locs hw => ?_)
                obtain ⟨k86, hf⟩ := xk_of hf
                refine x_lald (n := 304) (f := (vp_updL uF1 v72.toNatClampNeg ((uF1 v72.toNatClampNeg) + x3.toInt64))) hc hw co_246 k86 dX8_deciding_124 ?_
                refine lv_l2i (v := ((vp_updL uF1 v72.toNatClampNeg ((uF1 v72.toNatClampNeg) + x3.toInt64)) v84.toNatClampNeg).toInt32) hx hb dX8_deciding_125 rfl ?_
                refine lv_iload_n hx hb dX8_deciding_126 rfl (lv_at hl 3 rfl) ?_
                refine lv_i2l (v := x3.toInt64) hx hb dX8_deciding_127 rfl ?_
                obtain ⟨uF1_87, h88, hf⟩ := xb1_of hf
                refine x_callvV (As := [.int ((vp_updL uF1 v72.toNatClampNeg ((uF1 v72.toNatClampNeg) + x3.toInt64)) v81.toNatClampNeg).toInt32, .int ((vp_updL uF1 v72.toNatClampNeg ((uF1 v72.toNatClampNeg) + x3.toInt64)) v84.toNatClampNeg).toInt32, .long x3.toInt64]) (rest := []) (σ' := (wA, wT, wG, wM, (uF0, uF1_87, uF2, uF3, uF4, uF5, uF6, uF7, uF8, uF9, uF10, uF11, uF12, uF13, uF14, uF15, uF16, uF17, uF18), wO)) hc hw hl.1 (m_X8_owes h88) kX8_188 co_245 rfl rfl ⟨rfl, rfl⟩ ⟨Nat.le_of_ble_eq_true rfl, Nat.le_of_ble_eq_true rfl⟩ ⟨Nat.zero_le _, Nat.zero_le _⟩ (Nat.le_of_ble_eq_true rfl) dX8_deciding_128 (fun H locs hw => ?_)
                refine lv_aload_n hx hb dX8_deciding_131 rfl (lv_at hl 0 rfl) ?_
                refine lv_iload_n hx hb dX8_deciding_132 rfl (lv_at hl 1 rfl) ?_
                refine lv_iload_n hx hb dX8_deciding_133 rfl (lv_at hl 3 rfl) ?_
                refine lv_i2l (v := x3.toInt64) hx hb dX8_deciding_134 rfl ?_
                obtain ⟨uF1_89, h90, hf⟩ := xb1_of hf
                refine x_callvV (As := [.int x1, .long x3.toInt64]) (rest := []) (σ' := (wA, wT, wG, wM, (uF0, uF1_89, uF2, uF3, uF4, uF5, uF6, uF7, uF8, uF9, uF10, uF11, uF12, uF13, uF14, uF15, uF16, uF17, uF18), wO)) hc hw hl.1 (m_X8_notes h90) kX8_192 co_245 rfl rfl ⟨rfl, rfl⟩ ⟨Nat.le_of_ble_eq_true rfl, Nat.le_of_ble_eq_true rfl⟩ ⟨Nat.zero_le _, Nat.zero_le _⟩ (Nat.le_of_ble_eq_true rfl) dX8_deciding_135 (fun H locs hw => ?_)
                refine lv_aload_n hx hb dX8_deciding_138 rfl (lv_at hl 0 rfl) ?_
                refine lv_aload_n hx hb dX8_deciding_139 rfl (lv_at hl 0 rfl) ?_
                refine lv_iload_n hx hb dX8_deciding_140 rfl (lv_at hl 2 rfl) ?_
                obtain ⟨v91, h92, hf⟩ := xb1_of hf
                refine x_calllV (As := [.int x2]) (rest := [.ref (xAd κ 245)]) (σ' := (wA, wT, wG, wM, (uF0, uF1_89, uF2, uF3, uF4, uF5, uF6, uF7, uF8, uF9, uF10, uF11, uF12, uF13, uF14, uF15, uF16, uF17, uF18), wO)) hc hw hl.1 (m_X8_restOf h92) kX8_185 co_245 rfl rfl ⟨rfl, rfl⟩ ⟨Nat.le_of_ble_eq_true rfl, Nat.le_of_ble_eq_true rfl⟩ ⟨Nat.zero_le _, Nat.zero_le _⟩ (Nat.le_of_ble_eq_true rfl) dX8_deciding_141 (fun H locs hw => ?_)
                refine x_put (σ' := (wA, wT, wG, wM, (uF0, uF1_89, uF2, uF3, uF4, uF5, uF6, uF7, uF8, uF9, uF10, v91, uF12, uF13, uF14, uF15, uF16, uF17, uF18), wO)) hc hw co_245 fX8_175 rfl rfl (Nat.le_of_ble_eq_true rfl) so_F_11 dX8_deciding_144 (fun H locs hw => ?_)
                refine lv_iconst (v := 0) hx hb dX8_deciding_147 (by decide) ?_
                cases hf
                exact K _ _ _ _ dX8_deciding_148 rfl hw
            · have hf := xif_f c71 hf
              refine lv_aload_n hx hb dX8_deciding_72 rfl (lv_at hl 0 rfl) ?_
              refine lv_iconst (v := 3) hx hb dX8_deciding_73 (by decide) ?_
              obtain ⟨v93, uF7_94, h95, hf⟩ := xb2_of hf
              refine x_calliV (As := [.int 3]) (rest := []) (σ' := (wA, wT, wG, wM, (uF0, uF1, uF2, uF3, uF4, uF5, uF6, uF7_94, uF8, uF9, uF10, uF11, uF12, uF13, uF14, uF15, uF16, uF17, uF18), wO)) hc hw hl.1 (m_X8_refuses h95) kX8_182 co_245 rfl rfl ⟨rfl, rfl⟩ ⟨Nat.le_of_ble_eq_true rfl, Nat.le_of_ble_eq_true rfl⟩ ⟨Nat.zero_le _, Nat.zero_le _⟩ (Nat.le_of_ble_eq_true rfl) dX8_deciding_74 (fun H locs hw => ?_)
              cases hf
              exact K _ _ _ _ dX8_deciding_77 rfl hw
          · have hf := xif_t c68 hf
            refine lv_aload_n hx hb dX8_deciding_44 rfl (lv_at hl 0 rfl) ?_
            refine x_get (v := .ref (xAd κ 246)) hc hw co_245 fX8_7 rfl dX8_deciding_45 ?_
            refine lv_iconst (v := 1) hx hb dX8_deciding_48 (by decide) ?_
            obtain ⟨k96, hf⟩ := xk_of hf
            refine x_lald (n := 304) (f := uF1) hc hw co_246 k96 dX8_deciding_49 ?_
            refine lv_lconst (v := 1) hx hb dX8_deciding_50 (by decide) ?_
            refine x_lcmp_le (tgt := 61) hx hb dX8_deciding_51 dX8_deciding_52 (by decide) (fun c97 => ?_) (fun c97 => ?_)
            · have hf := xif_t c97 hf
              refine lv_iload_n hx hb dX8_deciding_61 rfl (lv_at hl 3 rfl) ?_
              refine lv_i2l (v := x3.toInt64) hx hb dX8_deciding_62 rfl ?_
              refine lv_aload_n hx hb dX8_deciding_63 rfl (lv_at hl 0 rfl) ?_
              refine lv_iload_n hx hb dX8_deciding_64 rfl (lv_at hl 2 rfl) ?_
              obtain ⟨v98, h99, hf⟩ := xb1_of hf
              refine x_calllV (As := [.int x2]) (rest := [.long x3.toInt64]) (σ' := (wA, wT, wG, wM, (uF0, uF1, uF2, uF3, uF4, uF5, uF6, uF7, uF8, uF9, uF10, uF11, uF12, uF13, uF14, uF15, uF16, uF17, uF18), wO)) hc hw hl.1 (m_X8_restOf h99) kX8_185 co_245 rfl rfl ⟨rfl, rfl⟩ ⟨Nat.le_of_ble_eq_true rfl, Nat.le_of_ble_eq_true rfl⟩ ⟨Nat.zero_le _, Nat.zero_le _⟩ (Nat.le_of_ble_eq_true rfl) dX8_deciding_65 (fun H locs hw => ?_)
              refine x_lcmp_le (tgt := 78) hx hb dX8_deciding_68 dX8_deciding_69 (by decide) (fun c100 => ?_) (fun c100 => ?_)
              · have hf := xif_t c100 hf
                refine lv_aload_n hx hb dX8_deciding_78 rfl (lv_at hl 0 rfl) ?_
                refine x_get (v := .ref (xAd κ 246)) hc hw co_245 fX8_7 rfl dX8_deciding_79 ?_
                refine lv_aload_n hx hb dX8_deciding_82 rfl (lv_at hl 0 rfl) ?_
                refine lv_iload_n hx hb dX8_deciding_83 rfl (lv_at hl 2 rfl) ?_
                refine lv_iconst (v := 2) hx hb dX8_deciding_84 (by decide) ?_
                refine lv_iload_n hx hb dX8_deciding_85 rfl (lv_at hl 1 rfl) ?_
                refine lv_iadd hx hb dX8_deciding_86 ?_
                obtain ⟨v101, h102, hf⟩ := xb1_of hf
                refine x_calliV (As := [.int x2, .int (2 + x1)]) (rest := [.ref (xAd κ 246)]) (σ' := (wA, wT, wG, wM, (uF0, uF1, uF2, uF3, uF4, uF5, uF6, uF7, uF8, uF9, uF10, uF11, uF12, uF13, uF14, uF15, uF16, uF17, uF18), wO)) hc hw hl.1 (m_X8_claimAt h102) kX8_90 co_245 rfl rfl ⟨rfl, rfl⟩ ⟨Nat.le_of_ble_eq_true rfl, Nat.le_of_ble_eq_true rfl⟩ ⟨Nat.zero_le _, Nat.zero_le _⟩ (Nat.le_of_ble_eq_true rfl) dX8_deciding_87 (fun H locs hw => ?_)
                refine lv_dup2_11 hx hb dX8_deciding_90 rfl rfl ?_
                obtain ⟨k103, hf⟩ := xk_of hf
                refine x_lald (n := 304) (f := uF1) hc hw co_246 k103 dX8_deciding_91 ?_
                refine lv_iload_n hx hb dX8_deciding_92 rfl (lv_at hl 3 rfl) ?_
                refine lv_i2l (v := x3.toInt64) hx hb dX8_deciding_93 rfl ?_
                refine lv_ladd hx hb dX8_deciding_94 ?_
                obtain ⟨k104, hf⟩ := xk_of hf
                refine x_last (n := 304) (f := uF1) (σ' := (wA, wT, wG, wM, (uF0, (vp_updL uF1 v101.toNatClampNeg ((uF1 v101.toNatClampNeg) + x3.toInt64)), uF2, uF3, uF4, uF5, uF6, uF7, uF8, uF9, uF10, uF11, uF12, uF13, uF14, uF15, uF16, uF17, uF18), wO)) hc hw co_246 k104 so_F_1 dX8_deciding_95 (fun H locs hw => ?_)
                refine lv_iload_n hx hb dX8_deciding_96 rfl (lv_at hl 1 rfl) ?_
                refine lv_iconst (v := 1) hx hb dX8_deciding_97 (by decide) ?_
                refine lv_icmp_ne (tgt := 131) hx hb dX8_deciding_98 (by decide) (fun c105 => ?_) (fun c105 => ?_)
                · have hf := xif_f c105 hf
                  refine lv_aload_n hx hb dX8_deciding_131 rfl (lv_at hl 0 rfl) ?_
                  refine lv_iload_n hx hb dX8_deciding_132 rfl (lv_at hl 1 rfl) ?_
                  refine lv_iload_n hx hb dX8_deciding_133 rfl (lv_at hl 3 rfl) ?_
                  refine lv_i2l (v := x3.toInt64) hx hb dX8_deciding_134 rfl ?_
                  obtain ⟨uF1_106, h107, hf⟩ := xb1_of hf
                  refine x_callvV (As := [.int x1, .long x3.toInt64]) (rest := []) (σ' := (wA, wT, wG, wM, (uF0, uF1_106, uF2, uF3, uF4, uF5, uF6, uF7, uF8, uF9, uF10, uF11, uF12, uF13, uF14, uF15, uF16, uF17, uF18), wO)) hc hw hl.1 (m_X8_notes h107) kX8_192 co_245 rfl rfl ⟨rfl, rfl⟩ ⟨Nat.le_of_ble_eq_true rfl, Nat.le_of_ble_eq_true rfl⟩ ⟨Nat.zero_le _, Nat.zero_le _⟩ (Nat.le_of_ble_eq_true rfl) dX8_deciding_135 (fun H locs hw => ?_)
                  refine lv_aload_n hx hb dX8_deciding_138 rfl (lv_at hl 0 rfl) ?_
                  refine lv_aload_n hx hb dX8_deciding_139 rfl (lv_at hl 0 rfl) ?_
                  refine lv_iload_n hx hb dX8_deciding_140 rfl (lv_at hl 2 rfl) ?_
                  obtain ⟨v108, h109, hf⟩ := xb1_of hf
                  refine x_calllV (As := [.int x2]) (rest := [.ref (xAd κ 245)]) (σ' := (wA, wT, wG, wM, (uF0, uF1_106, uF2, uF3, uF4, uF5, uF6, uF7, uF8, uF9, uF10, uF11, uF12, uF13, uF14, uF15, uF16, uF17, uF18), wO)) hc hw hl.1 (m_X8_restOf h109) kX8_185 co_245 rfl rfl ⟨rfl, rfl⟩ ⟨Nat.le_of_ble_eq_true rfl, Nat.le_of_ble_eq_true rfl⟩ ⟨Nat.zero_le _, Nat.zero_le _⟩ (Nat.le_of_ble_eq_true rfl) dX8_deciding_141 (fun H locs hw => ?_)
                  refine x_put (σ' := (wA, wT, wG, wM, (uF0, uF1_106, uF2, uF3, uF4, uF5, uF6, uF7, uF8, uF9, uF10, v108, uF12, uF13, uF14, uF15, uF16, uF17, uF18), wO)) hc hw co_245 fX8_175 rfl rfl (Nat.le_of_ble_eq_true rfl) so_F_11 dX8_deciding_144 (fun H locs hw => ?_)
                  refine lv_iconst (v := 0) hx hb dX8_deciding_147 (by decide) ?_
                  cases hf
                  exact K _ _ _ _ dX8_deciding_148 rfl hw
                · have hf := xif_t c105 hf
                  refine lv_aload_n hx hb dX8_deciding_101 rfl (lv_at hl 0 rfl) ?_
                  refine lv_aload_n hx hb dX8_deciding_102 rfl (lv_at hl 0 rfl) ?_
                  refine x_get (v := .ref (xAd κ 246)) hc hw co_245 fX8_7 rfl dX8_deciding_103 ?_
                  refine lv_aload_n hx hb dX8_deciding_106 rfl (lv_at hl 0 rfl) ?_
                  refine lv_iload_n hx hb dX8_deciding_107 rfl (lv_at hl 2 rfl) ?_
                  refine lv_iconst (v := 1) hx hb dX8_deciding_108 (by decide) ?_
                  obtain ⟨v110, h111, hf⟩ := xb1_of hf
                  refine x_calliV (As := [.int x2, .int 1]) (rest := [.ref (xAd κ 246), .ref (xAd κ 245)]) (σ' := (wA, wT, wG, wM, (uF0, (vp_updL uF1 v101.toNatClampNeg ((uF1 v101.toNatClampNeg) + x3.toInt64)), uF2, uF3, uF4, uF5, uF6, uF7, uF8, uF9, uF10, uF11, uF12, uF13, uF14, uF15, uF16, uF17, uF18), wO)) hc hw hl.1 (m_X8_claimAt h111) kX8_90 co_245 rfl rfl ⟨rfl, rfl⟩ ⟨Nat.le_of_ble_eq_true rfl, Nat.le_of_ble_eq_true rfl⟩ ⟨Nat.zero_le _, Nat.zero_le _⟩ (Nat.le_of_ble_eq_true rfl) dX8_deciding_109 (fun H locs hw => ?_)
                  obtain ⟨k112, hf⟩ := xk_of hf
                  refine x_lald (n := 304) (f := (vp_updL uF1 v101.toNatClampNeg ((uF1 v101.toNatClampNeg) + x3.toInt64))) hc hw co_246 k112 dX8_deciding_112 ?_
                  refine lv_l2i (v := ((vp_updL uF1 v101.toNatClampNeg ((uF1 v101.toNatClampNeg) + x3.toInt64)) v110.toNatClampNeg).toInt32) hx hb dX8_deciding_113 rfl ?_
                  refine lv_aload_n hx hb dX8_deciding_114 rfl (lv_at hl 0 rfl) ?_
                  refine x_get (v := .ref (xAd κ 246)) hc hw co_245 fX8_7 rfl dX8_deciding_115 ?_
                  refine lv_aload_n hx hb dX8_deciding_118 rfl (lv_at hl 0 rfl) ?_
                  refine lv_iload_n hx hb dX8_deciding_119 rfl (lv_at hl 2 rfl) ?_
                  refine lv_iconst (v := 0) hx hb dX8_deciding_120 (by decide) ?_
                  obtain ⟨v113, h114, hf⟩ := xb1_of hf
                  refine x_calliV (As := [.int x2, .int 0]) (rest := [.ref (xAd κ 246), .int ((vp_updL uF1 v101.toNatClampNeg ((uF1 v101.toNatClampNeg) + x3.toInt64)) v110.toNatClampNeg).toInt32, .ref (xAd κ 245)]) (σ' := (wA, wT, wG, wM, (uF0, (vp_updL uF1 v101.toNatClampNeg ((uF1 v101.toNatClampNeg) + x3.toInt64)), uF2, uF3, uF4, uF5, uF6, uF7, uF8, uF9, uF10, uF11, uF12, uF13, uF14, uF15, uF16, uF17, uF18), wO)) hc hw hl.1 (m_X8_claimAt h114) kX8_90 co_245 rfl rfl ⟨rfl, rfl⟩ ⟨Nat.le_of_ble_eq_true rfl, Nat.le_of_ble_eq_true rfl⟩ ⟨Nat.zero_le _, Nat.zero_le _⟩ (Nat.le_of_ble_eq_true rfl) dX8_deciding_121 (fun H locs hw => ?_)
                  obtain ⟨k115, hf⟩ := xk_of hf
                  refine x_lald (n := 304) (f := (vp_updL uF1 v101.toNatClampNeg ((uF1 v101.toNatClampNeg) + x3.toInt64))) hc hw co_246 k115 dX8_deciding_124 ?_
                  refine lv_l2i (v := ((vp_updL uF1 v101.toNatClampNeg ((uF1 v101.toNatClampNeg) + x3.toInt64)) v113.toNatClampNeg).toInt32) hx hb dX8_deciding_125 rfl ?_
                  refine lv_iload_n hx hb dX8_deciding_126 rfl (lv_at hl 3 rfl) ?_
                  refine lv_i2l (v := x3.toInt64) hx hb dX8_deciding_127 rfl ?_
                  obtain ⟨uF1_116, h117, hf⟩ := xb1_of hf
                  refine x_callvV (As := [.int ((vp_updL uF1 v101.toNatClampNeg ((uF1 v101.toNatClampNeg) + x3.toInt64)) v110.toNatClampNeg).toInt32, .int ((vp_updL uF1 v101.toNatClampNeg ((uF1 v101.toNatClampNeg) + x3.toInt64)) v113.toNatClampNeg).toInt32, .long x3.toInt64]) (rest := []) (σ' := (wA, wT, wG, wM, (uF0, uF1_116, uF2, uF3, uF4, uF5, uF6, uF7, uF8, uF9, uF10, uF11, uF12, uF13, uF14, uF15, uF16, uF17, uF18), wO)) hc hw hl.1 (m_X8_owes h117) kX8_188 co_245 rfl rfl ⟨rfl, rfl⟩ ⟨Nat.le_of_ble_eq_true rfl, Nat.le_of_ble_eq_true rfl⟩ ⟨Nat.zero_le _, Nat.zero_le _⟩ (Nat.le_of_ble_eq_true rfl) dX8_deciding_128 (fun H locs hw => ?_)
                  refine lv_aload_n hx hb dX8_deciding_131 rfl (lv_at hl 0 rfl) ?_
                  refine lv_iload_n hx hb dX8_deciding_132 rfl (lv_at hl 1 rfl) ?_
                  refine lv_iload_n hx hb dX8_deciding_133 rfl (lv_at hl 3 rfl) ?_
                  refine lv_i2l (v := x3.toInt64) hx hb dX8_deciding_134 rfl ?_
                  obtain ⟨uF1_118, h119, hf⟩ := xb1_of hf
                  refine x_callvV (As := [.int x1, .long x3.toInt64]) (rest := []) (σ' := (wA, wT, wG, wM, (uF0, uF1_118, uF2, uF3, uF4, uF5, uF6, uF7, uF8, uF9, uF10, uF11, uF12, uF13, uF14, uF15, uF16, uF17, uF18), wO)) hc hw hl.1 (m_X8_notes h119) kX8_192 co_245 rfl rfl ⟨rfl, rfl⟩ ⟨Nat.le_of_ble_eq_true rfl, Nat.le_of_ble_eq_true rfl⟩ ⟨Nat.zero_le _, Nat.zero_le _⟩ (Nat.le_of_ble_eq_true rfl) dX8_deciding_135 (fun H locs hw => ?_)
                  refine lv_aload_n hx hb dX8_deciding_138 rfl (lv_at hl 0 rfl) ?_
                  refine lv_aload_n hx hb dX8_deciding_139 rfl (lv_at hl 0 rfl) ?_
                  refine lv_iload_n hx hb dX8_deciding_140 rfl (lv_at hl 2 rfl) ?_
                  obtain ⟨v120, h121, hf⟩ := xb1_of hf
                  refine x_calllV (As := [.int x2]) (rest := [.ref (xAd κ 245)]) (σ' := (wA, wT, wG, wM, (uF0, uF1_118, uF2, uF3, uF4, uF5, uF6, uF7, uF8, uF9, uF10, uF11, uF12, uF13, uF14, uF15, uF16, uF17, uF18), wO)) hc hw hl.1 (m_X8_restOf h121) kX8_185 co_245 rfl rfl ⟨rfl, rfl⟩ ⟨Nat.le_of_ble_eq_true rfl, Nat.le_of_ble_eq_true rfl⟩ ⟨Nat.zero_le _, Nat.zero_le _⟩ (Nat.le_of_ble_eq_true rfl) dX8_deciding_141 (fun H locs hw => ?_)
                  refine x_put (σ' := (wA, wT, wG, wM, (uF0, uF1_118, uF2, uF3, uF4, uF5, uF6, uF7, uF8, uF9, uF10, v120, uF12, uF13, uF14, uF15, uF16, uF17, uF18), wO)) hc hw co_245 fX8_175 rfl rfl (Nat.le_of_ble_eq_true rfl) so_F_11 dX8_deciding_144 (fun H locs hw => ?_)
                  refine lv_iconst (v := 0) hx hb dX8_deciding_147 (by decide) ?_
                  cases hf
                  exact K _ _ _ _ dX8_deciding_148 rfl hw
              · have hf := xif_f c100 hf
                refine lv_aload_n hx hb dX8_deciding_72 rfl (lv_at hl 0 rfl) ?_
                refine lv_iconst (v := 3) hx hb dX8_deciding_73 (by decide) ?_
                obtain ⟨v122, uF7_123, h124, hf⟩ := xb2_of hf
                refine x_calliV (As := [.int 3]) (rest := []) (σ' := (wA, wT, wG, wM, (uF0, uF1, uF2, uF3, uF4, uF5, uF6, uF7_123, uF8, uF9, uF10, uF11, uF12, uF13, uF14, uF15, uF16, uF17, uF18), wO)) hc hw hl.1 (m_X8_refuses h124) kX8_182 co_245 rfl rfl ⟨rfl, rfl⟩ ⟨Nat.le_of_ble_eq_true rfl, Nat.le_of_ble_eq_true rfl⟩ ⟨Nat.zero_le _, Nat.zero_le _⟩ (Nat.le_of_ble_eq_true rfl) dX8_deciding_74 (fun H locs hw => ?_)
                cases hf
                exact K _ _ _ _ dX8_deciding_77 rfl hw
            · have hf := xif_f c97 hf
              refine lv_aload_n hx hb dX8_deciding_55 rfl (lv_at hl 0 rfl) ?_
              refine lv_iconst (v := 2) hx hb dX8_deciding_56 (by decide) ?_
              obtain ⟨v125, uF7_126, h127, hf⟩ := xb2_of hf
              refine x_calliV (As := [.int 2]) (rest := []) (σ' := (wA, wT, wG, wM, (uF0, uF1, uF2, uF3, uF4, uF5, uF6, uF7_126, uF8, uF9, uF10, uF11, uF12, uF13, uF14, uF15, uF16, uF17, uF18), wO)) hc hw hl.1 (m_X8_refuses h127) kX8_182 co_245 rfl rfl ⟨rfl, rfl⟩ ⟨Nat.le_of_ble_eq_true rfl, Nat.le_of_ble_eq_true rfl⟩ ⟨Nat.zero_le _, Nat.zero_le _⟩ (Nat.le_of_ble_eq_true rfl) dX8_deciding_57 (fun H locs hw => ?_)
              cases hf
              exact K _ _ _ _ dX8_deciding_60 rfl hw
        · have hf := xif_t c67 hf
          refine lv_aload_n hx hb dX8_deciding_33 rfl (lv_at hl 0 rfl) ?_
          refine lv_iconst (v := 1) hx hb dX8_deciding_34 (by decide) ?_
          obtain ⟨v128, uF7_129, h130, hf⟩ := xb2_of hf
          refine x_calliV (As := [.int 1]) (rest := []) (σ' := (wA, wT, wG, wM, (uF0, uF1, uF2, uF3, uF4, uF5, uF6, uF7_129, uF8, uF9, uF10, uF11, uF12, uF13, uF14, uF15, uF16, uF17, uF18), wO)) hc hw hl.1 (m_X8_refuses h130) kX8_182 co_245 rfl rfl ⟨rfl, rfl⟩ ⟨Nat.le_of_ble_eq_true rfl, Nat.le_of_ble_eq_true rfl⟩ ⟨Nat.zero_le _, Nat.zero_le _⟩ (Nat.le_of_ble_eq_true rfl) dX8_deciding_35 (fun H locs hw => ?_)
          cases hf
          exact K _ _ _ _ dX8_deciding_38 rfl hw
    · have hf := xif_f c4 hf
      refine lv_iconst (v := 2) hx hb dX8_deciding_15 (by decide) ?_
      cases hf
      exact K _ _ _ _ dX8_deciding_16 rfl hw
  · have hf := xif_t c3 hf
    refine lv_iconst (v := 1) hx hb dX8_deciding_8 (by decide) ?_
    cases hf
    exact K _ _ _ _ dX8_deciding_9 rfl hw
def f_X8_paying (fu : Nat) (x1 : Int32) (x2 : Int32) (uF1 : xF64) (uF11 : Int64) : Option (Int32 × xF64 × Int64) :=
  xb1 (f_X8_isParty x1 uF1) fun v1 => (if v1 = 0 then (some (1, uF1, uF11)) else (xb1 (f_X8_in x2 1 100000000) fun v4 => (if v4 = 0 then (some (2, uF1, uF11)) else (xk (xin (32 + x1) 304) (xk (xin (32 + x1) 304) (xb1 (f_X8_notes fu 5 x2.toInt64 (vp_updL uF1 (32 + x1).toNatClampNeg ((uF1 (32 + x1).toNatClampNeg) + x2.toInt64))) fun uF1_9 => (xb1 (f_X8_held x1 uF1_9) fun v11 => (some (0, uF1_9, v11)))))))))
set_option maxHeartbeats 4000000 in
set_option maxRecDepth 100000 in
theorem m_X8_paying {l : Launch} {κ : xKt} {wA : Nat → sAcc} {wT : sTxt} {wG : sRng} {wM : sMai} {wO : sOut} {fu : Nat} {x1 : Int32} {x2 : Int32} {uF0 : Int32} {uF1 : xF64} {uF2 : xF64} {uF3 : xF64} {uF4 : xF64} {uF5 : Int32} {uF6 : Int32} {uF7 : Int32} {uF8 : xF32} {uF9 : Int32} {uF10 : Int32} {uF11 : Int64} {uF12 : xF32} {uF13 : Int32} {uF14 : Int32} {uF15 : Int32} {uF16 : xF32} {uF17 : xF32} {uF18 : Int32} {rr : Int32} {yF1 : xF64} {yF11 : Int64} (hf : f_X8_paying fu x1 x2 uF1 uF11 = some (rr, yF1, yF11)) : xMi l κ yX8_paying cX8_paying 3 (some .int) (xR 2 0 0) [.ref (xAd κ 245), .int x1, .int x2] (wA, wT, wG, wM, (uF0, uF1, uF2, uF3, uF4, uF5, uF6, uF7, uF8, uF9, uF10, uF11, uF12, uF13, uF14, uF15, uF16, uF17, uF18), wO) (wA, wT, wG, wM, (uF0, yF1, uF2, uF3, uF4, uF5, uF6, uF7, uF8, uF9, uF10, yF11, uF12, uF13, uF14, uF15, uF16, uF17, uF18), wO) rr := by
  unfold f_X8_paying at hf
  refine xMi_of pn_X8 (Nat.le_of_ble_eq_true rfl) ⟨rfl, rfl⟩ ?_
  intro A p e s m args below meth c ls Q hc hw hl K
  have hc : xC κ A p s m args meth c cX8_paying RX8 3 (some .int) := hc
  have hx := hc.1.1
  have hb := hc.1.2.1
  have hl : lv_has ls 3 [(0, .ref (xAd κ 245)), (1, .int x1), (2, .int x2)] := hl
  refine lv_aload_n hx hb dX8_paying_0 rfl (lv_at hl 0 rfl) ?_
  refine lv_iload_n hx hb dX8_paying_1 rfl (lv_at hl 1 rfl) ?_
  obtain ⟨v1, h2, hf⟩ := xb1_of hf
  refine x_calliV (As := [.int x1]) (rest := []) (σ' := (wA, wT, wG, wM, (uF0, uF1, uF2, uF3, uF4, uF5, uF6, uF7, uF8, uF9, uF10, uF11, uF12, uF13, uF14, uF15, uF16, uF17, uF18), wO)) hc hw hl.1 (m_X8_isParty h2) kX8_149 co_245 rfl rfl ⟨rfl, rfl⟩ ⟨Nat.le_of_ble_eq_true rfl, Nat.le_of_ble_eq_true rfl⟩ ⟨Nat.zero_le _, Nat.zero_le _⟩ (Nat.le_of_ble_eq_true rfl) dX8_paying_2 (fun H locs hw => ?_)
  refine lv_if_ne (tgt := 10) hx hb dX8_paying_5 (by decide) (fun c3 => ?_) (fun c3 => ?_)
  · have hf := xif_f c3 hf
    refine lv_iload_n hx hb dX8_paying_10 rfl (lv_at hl 2 rfl) ?_
    refine lv_iconst (v := 1) hx hb dX8_paying_11 (by decide) ?_
    refine x_ldc hc w_constant_RX8_172_100000000 dX8_paying_12 ?_
    obtain ⟨v4, h5, hf⟩ := xb1_of hf
    refine x_calliS (As := [.int x2, .int 1, .int 100000000]) (rest := []) (σ' := (wA, wT, wG, wM, (uF0, uF1, uF2, uF3, uF4, uF5, uF6, uF7, uF8, uF9, uF10, uF11, uF12, uF13, uF14, uF15, uF16, uF17, uF18), wO)) hc hw hl.1 (m_X8_in h5) kX8_63 rfl rfl ⟨rfl, rfl⟩ ⟨Nat.le_of_ble_eq_true rfl, Nat.le_of_ble_eq_true rfl⟩ ⟨Nat.zero_le _, Nat.zero_le _⟩ (Nat.le_of_ble_eq_true rfl) dX8_paying_14 (fun H locs hw => ?_)
    refine lv_if_ne (tgt := 22) hx hb dX8_paying_17 (by decide) (fun c6 => ?_) (fun c6 => ?_)
    · have hf := xif_f c6 hf
      refine lv_aload_n hx hb dX8_paying_22 rfl (lv_at hl 0 rfl) ?_
      refine x_get (v := .ref (xAd κ 246)) hc hw co_245 fX8_7 rfl dX8_paying_23 ?_
      refine lv_bipush (v := 32) hx hb dX8_paying_26 (by decide) ?_
      refine lv_iload_n hx hb dX8_paying_28 rfl (lv_at hl 1 rfl) ?_
      refine lv_iadd hx hb dX8_paying_29 ?_
      refine lv_dup2_11 hx hb dX8_paying_30 rfl rfl ?_
      obtain ⟨k7, hf⟩ := xk_of hf
      refine x_lald (n := 304) (f := uF1) hc hw co_246 k7 dX8_paying_31 ?_
      refine lv_iload_n hx hb dX8_paying_32 rfl (lv_at hl 2 rfl) ?_
      refine lv_i2l (v := x2.toInt64) hx hb dX8_paying_33 rfl ?_
      refine lv_ladd hx hb dX8_paying_34 ?_
      obtain ⟨k8, hf⟩ := xk_of hf
      refine x_last (n := 304) (f := uF1) (σ' := (wA, wT, wG, wM, (uF0, (vp_updL uF1 (32 + x1).toNatClampNeg ((uF1 (32 + x1).toNatClampNeg) + x2.toInt64)), uF2, uF3, uF4, uF5, uF6, uF7, uF8, uF9, uF10, uF11, uF12, uF13, uF14, uF15, uF16, uF17, uF18), wO)) hc hw co_246 k8 so_F_1 dX8_paying_35 (fun H locs hw => ?_)
      refine lv_aload_n hx hb dX8_paying_36 rfl (lv_at hl 0 rfl) ?_
      refine lv_iconst (v := 5) hx hb dX8_paying_37 (by decide) ?_
      refine lv_iload_n hx hb dX8_paying_38 rfl (lv_at hl 2 rfl) ?_
      refine lv_i2l (v := x2.toInt64) hx hb dX8_paying_39 rfl ?_
      obtain ⟨uF1_9, h10, hf⟩ := xb1_of hf
      refine x_callvV (As := [.int 5, .long x2.toInt64]) (rest := []) (σ' := (wA, wT, wG, wM, (uF0, uF1_9, uF2, uF3, uF4, uF5, uF6, uF7, uF8, uF9, uF10, uF11, uF12, uF13, uF14, uF15, uF16, uF17, uF18), wO)) hc hw hl.1 (m_X8_notes h10) kX8_192 co_245 rfl rfl ⟨rfl, rfl⟩ ⟨Nat.le_of_ble_eq_true rfl, Nat.le_of_ble_eq_true rfl⟩ ⟨Nat.zero_le _, Nat.zero_le _⟩ (Nat.le_of_ble_eq_true rfl) dX8_paying_40 (fun H locs hw => ?_)
      refine lv_aload_n hx hb dX8_paying_43 rfl (lv_at hl 0 rfl) ?_
      refine lv_aload_n hx hb dX8_paying_44 rfl (lv_at hl 0 rfl) ?_
      refine lv_iload_n hx hb dX8_paying_45 rfl (lv_at hl 1 rfl) ?_
      obtain ⟨v11, h12, hf⟩ := xb1_of hf
      refine x_calllV (As := [.int x1]) (rest := [.ref (xAd κ 245)]) (σ' := (wA, wT, wG, wM, (uF0, uF1_9, uF2, uF3, uF4, uF5, uF6, uF7, uF8, uF9, uF10, uF11, uF12, uF13, uF14, uF15, uF16, uF17, uF18), wO)) hc hw hl.1 (m_X8_held h12) kX8_156 co_245 rfl rfl ⟨rfl, rfl⟩ ⟨Nat.le_of_ble_eq_true rfl, Nat.le_of_ble_eq_true rfl⟩ ⟨Nat.zero_le _, Nat.zero_le _⟩ (Nat.le_of_ble_eq_true rfl) dX8_paying_46 (fun H locs hw => ?_)
      refine x_put (σ' := (wA, wT, wG, wM, (uF0, uF1_9, uF2, uF3, uF4, uF5, uF6, uF7, uF8, uF9, uF10, v11, uF12, uF13, uF14, uF15, uF16, uF17, uF18), wO)) hc hw co_245 fX8_175 rfl rfl (Nat.le_of_ble_eq_true rfl) so_F_11 dX8_paying_49 (fun H locs hw => ?_)
      refine lv_iconst (v := 0) hx hb dX8_paying_52 (by decide) ?_
      cases hf
      exact K _ _ _ _ dX8_paying_53 rfl hw
    · have hf := xif_t c6 hf
      refine lv_iconst (v := 2) hx hb dX8_paying_20 (by decide) ?_
      cases hf
      exact K _ _ _ _ dX8_paying_21 rfl hw
  · have hf := xif_t c3 hf
    refine lv_iconst (v := 1) hx hb dX8_paying_8 (by decide) ?_
    cases hf
    exact K _ _ _ _ dX8_paying_9 rfl hw
def f_X8_settling (fu : Nat) (x1 : Int32) (x2 : Int32) (x3 : Int32) (uF1 : xF64) (uF7 : Int32) (uF11 : Int64) : Option (Int32 × xF64 × Int32 × Int64) :=
  xb1 (f_X8_isParty x1 uF1) fun v1 => (if v1 = 0 then (some (1, uF1, uF7, uF11)) else (xb1 (f_X8_isParty x2 uF1) fun v4 => (if v4 = 0 then (some (1, uF1, uF7, uF11)) else (if 1 ≤ x3 then (xb1 (f_X8_owedBy fu x1 x2 uF1) fun v8 => (if x3.toInt64 ≤ v8 then (xb1 (f_X8_pays fu x1 x2 x3.toInt64 uF1) fun uF1_11 => (xb1 (f_X8_notes fu 8 x3.toInt64 uF1_11) fun uF1_13 => (xb1 (f_X8_owedBy fu x1 x2 uF1_13) fun v15 => (some (0, uF1_13, uF7, v15))))) else (xb2 (f_X8_refuses 4 uF7) fun v17 uF7_18 => (some (v17, uF1, uF7_18, uF11))))) else (some (2, uF1, uF7, uF11))))))
set_option maxHeartbeats 4000000 in
set_option maxRecDepth 100000 in
theorem m_X8_settling {l : Launch} {κ : xKt} {wA : Nat → sAcc} {wT : sTxt} {wG : sRng} {wM : sMai} {wO : sOut} {fu : Nat} {x1 : Int32} {x2 : Int32} {x3 : Int32} {uF0 : Int32} {uF1 : xF64} {uF2 : xF64} {uF3 : xF64} {uF4 : xF64} {uF5 : Int32} {uF6 : Int32} {uF7 : Int32} {uF8 : xF32} {uF9 : Int32} {uF10 : Int32} {uF11 : Int64} {uF12 : xF32} {uF13 : Int32} {uF14 : Int32} {uF15 : Int32} {uF16 : xF32} {uF17 : xF32} {uF18 : Int32} {rr : Int32} {yF1 : xF64} {yF7 : Int32} {yF11 : Int64} (hf : f_X8_settling fu x1 x2 x3 uF1 uF7 uF11 = some (rr, yF1, yF7, yF11)) : xMi l κ yX8_settling cX8_settling 4 (some .int) (xR 3 0 0) [.ref (xAd κ 245), .int x1, .int x2, .int x3] (wA, wT, wG, wM, (uF0, uF1, uF2, uF3, uF4, uF5, uF6, uF7, uF8, uF9, uF10, uF11, uF12, uF13, uF14, uF15, uF16, uF17, uF18), wO) (wA, wT, wG, wM, (uF0, yF1, uF2, uF3, uF4, uF5, uF6, yF7, uF8, uF9, uF10, yF11, uF12, uF13, uF14, uF15, uF16, uF17, uF18), wO) rr := by
  unfold f_X8_settling at hf
  refine xMi_of pn_X8 (Nat.le_of_ble_eq_true rfl) ⟨rfl, rfl⟩ ?_
  intro A p e s m args below meth c ls Q hc hw hl K
  have hc : xC κ A p s m args meth c cX8_settling RX8 4 (some .int) := hc
  have hx := hc.1.1
  have hb := hc.1.2.1
  have hl : lv_has ls 4 [(0, .ref (xAd κ 245)), (1, .int x1), (2, .int x2), (3, .int x3)] := hl
  refine lv_aload_n hx hb dX8_settling_0 rfl (lv_at hl 0 rfl) ?_
  refine lv_iload_n hx hb dX8_settling_1 rfl (lv_at hl 1 rfl) ?_
  obtain ⟨v1, h2, hf⟩ := xb1_of hf
  refine x_calliV (As := [.int x1]) (rest := []) (σ' := (wA, wT, wG, wM, (uF0, uF1, uF2, uF3, uF4, uF5, uF6, uF7, uF8, uF9, uF10, uF11, uF12, uF13, uF14, uF15, uF16, uF17, uF18), wO)) hc hw hl.1 (m_X8_isParty h2) kX8_149 co_245 rfl rfl ⟨rfl, rfl⟩ ⟨Nat.le_of_ble_eq_true rfl, Nat.le_of_ble_eq_true rfl⟩ ⟨Nat.zero_le _, Nat.zero_le _⟩ (Nat.le_of_ble_eq_true rfl) dX8_settling_2 (fun H locs hw => ?_)
  refine lv_if_eq (tgt := 16) hx hb dX8_settling_5 (by decide) (fun c3 => ?_) (fun c3 => ?_)
  · have hf := xif_t c3 hf
    refine lv_iconst (v := 1) hx hb dX8_settling_16 (by decide) ?_
    cases hf
    exact K _ _ _ _ dX8_settling_17 rfl hw
  · have hf := xif_f c3 hf
    refine lv_aload_n hx hb dX8_settling_8 rfl (lv_at hl 0 rfl) ?_
    refine lv_iload_n hx hb dX8_settling_9 rfl (lv_at hl 2 rfl) ?_
    obtain ⟨v4, h5, hf⟩ := xb1_of hf
    refine x_calliV (As := [.int x2]) (rest := []) (σ' := (wA, wT, wG, wM, (uF0, uF1, uF2, uF3, uF4, uF5, uF6, uF7, uF8, uF9, uF10, uF11, uF12, uF13, uF14, uF15, uF16, uF17, uF18), wO)) hc hw hl.1 (m_X8_isParty h5) kX8_149 co_245 rfl rfl ⟨rfl, rfl⟩ ⟨Nat.le_of_ble_eq_true rfl, Nat.le_of_ble_eq_true rfl⟩ ⟨Nat.zero_le _, Nat.zero_le _⟩ (Nat.le_of_ble_eq_true rfl) dX8_settling_10 (fun H locs hw => ?_)
    refine lv_if_ne (tgt := 18) hx hb dX8_settling_13 (by decide) (fun c6 => ?_) (fun c6 => ?_)
    · have hf := xif_f c6 hf
      refine lv_iload_n hx hb dX8_settling_18 rfl (lv_at hl 3 rfl) ?_
      refine lv_iconst (v := 1) hx hb dX8_settling_19 (by decide) ?_
      refine lv_icmp_ge (tgt := 25) hx hb dX8_settling_20 (by decide) (fun c7 => ?_) (fun c7 => ?_)
      · have hf := xif_t c7 hf
        refine lv_iload_n hx hb dX8_settling_25 rfl (lv_at hl 3 rfl) ?_
        refine lv_i2l (v := x3.toInt64) hx hb dX8_settling_26 rfl ?_
        refine lv_aload_n hx hb dX8_settling_27 rfl (lv_at hl 0 rfl) ?_
        refine lv_iload_n hx hb dX8_settling_28 rfl (lv_at hl 1 rfl) ?_
        refine lv_iload_n hx hb dX8_settling_29 rfl (lv_at hl 2 rfl) ?_
        obtain ⟨v8, h9, hf⟩ := xb1_of hf
        refine x_calllV (As := [.int x1, .int x2]) (rest := [.long x3.toInt64]) (σ' := (wA, wT, wG, wM, (uF0, uF1, uF2, uF3, uF4, uF5, uF6, uF7, uF8, uF9, uF10, uF11, uF12, uF13, uF14, uF15, uF16, uF17, uF18), wO)) hc hw hl.1 (m_X8_owedBy h9) kX8_196 co_245 rfl rfl ⟨rfl, rfl⟩ ⟨Nat.le_of_ble_eq_true rfl, Nat.le_of_ble_eq_true rfl⟩ ⟨Nat.zero_le _, Nat.zero_le _⟩ (Nat.le_of_ble_eq_true rfl) dX8_settling_30 (fun H locs hw => ?_)
        refine x_lcmp_le (tgt := 43) hx hb dX8_settling_33 dX8_settling_34 (by decide) (fun c10 => ?_) (fun c10 => ?_)
        · have hf := xif_t c10 hf
          refine lv_aload_n hx hb dX8_settling_43 rfl (lv_at hl 0 rfl) ?_
          refine lv_iload_n hx hb dX8_settling_44 rfl (lv_at hl 1 rfl) ?_
          refine lv_iload_n hx hb dX8_settling_45 rfl (lv_at hl 2 rfl) ?_
          refine lv_iload_n hx hb dX8_settling_46 rfl (lv_at hl 3 rfl) ?_
          refine lv_i2l (v := x3.toInt64) hx hb dX8_settling_47 rfl ?_
          obtain ⟨uF1_11, h12, hf⟩ := xb1_of hf
          refine x_callvV (As := [.int x1, .int x2, .long x3.toInt64]) (rest := []) (σ' := (wA, wT, wG, wM, (uF0, uF1_11, uF2, uF3, uF4, uF5, uF6, uF7, uF8, uF9, uF10, uF11, uF12, uF13, uF14, uF15, uF16, uF17, uF18), wO)) hc hw hl.1 (m_X8_pays h12) kX8_200 co_245 rfl rfl ⟨rfl, rfl⟩ ⟨Nat.le_of_ble_eq_true rfl, Nat.le_of_ble_eq_true rfl⟩ ⟨Nat.zero_le _, Nat.zero_le _⟩ (Nat.le_of_ble_eq_true rfl) dX8_settling_48 (fun H locs hw => ?_)
          refine lv_aload_n hx hb dX8_settling_51 rfl (lv_at hl 0 rfl) ?_
          refine lv_bipush (v := 8) hx hb dX8_settling_52 (by decide) ?_
          refine lv_iload_n hx hb dX8_settling_54 rfl (lv_at hl 3 rfl) ?_
          refine lv_i2l (v := x3.toInt64) hx hb dX8_settling_55 rfl ?_
          obtain ⟨uF1_13, h14, hf⟩ := xb1_of hf
          refine x_callvV (As := [.int 8, .long x3.toInt64]) (rest := []) (σ' := (wA, wT, wG, wM, (uF0, uF1_13, uF2, uF3, uF4, uF5, uF6, uF7, uF8, uF9, uF10, uF11, uF12, uF13, uF14, uF15, uF16, uF17, uF18), wO)) hc hw hl.1 (m_X8_notes h14) kX8_192 co_245 rfl rfl ⟨rfl, rfl⟩ ⟨Nat.le_of_ble_eq_true rfl, Nat.le_of_ble_eq_true rfl⟩ ⟨Nat.zero_le _, Nat.zero_le _⟩ (Nat.le_of_ble_eq_true rfl) dX8_settling_56 (fun H locs hw => ?_)
          refine lv_aload_n hx hb dX8_settling_59 rfl (lv_at hl 0 rfl) ?_
          refine lv_aload_n hx hb dX8_settling_60 rfl (lv_at hl 0 rfl) ?_
          refine lv_iload_n hx hb dX8_settling_61 rfl (lv_at hl 1 rfl) ?_
          refine lv_iload_n hx hb dX8_settling_62 rfl (lv_at hl 2 rfl) ?_
          obtain ⟨v15, h16, hf⟩ := xb1_of hf
          refine x_calllV (As := [.int x1, .int x2]) (rest := [.ref (xAd κ 245)]) (σ' := (wA, wT, wG, wM, (uF0, uF1_13, uF2, uF3, uF4, uF5, uF6, uF7, uF8, uF9, uF10, uF11, uF12, uF13, uF14, uF15, uF16, uF17, uF18), wO)) hc hw hl.1 (m_X8_owedBy h16) kX8_196 co_245 rfl rfl ⟨rfl, rfl⟩ ⟨Nat.le_of_ble_eq_true rfl, Nat.le_of_ble_eq_true rfl⟩ ⟨Nat.zero_le _, Nat.zero_le _⟩ (Nat.le_of_ble_eq_true rfl) dX8_settling_63 (fun H locs hw => ?_)
          refine x_put (σ' := (wA, wT, wG, wM, (uF0, uF1_13, uF2, uF3, uF4, uF5, uF6, uF7, uF8, uF9, uF10, v15, uF12, uF13, uF14, uF15, uF16, uF17, uF18), wO)) hc hw co_245 fX8_175 rfl rfl (Nat.le_of_ble_eq_true rfl) so_F_11 dX8_settling_66 (fun H locs hw => ?_)
          refine lv_iconst (v := 0) hx hb dX8_settling_69 (by decide) ?_
          cases hf
          exact K _ _ _ _ dX8_settling_70 rfl hw
        · have hf := xif_f c10 hf
          refine lv_aload_n hx hb dX8_settling_37 rfl (lv_at hl 0 rfl) ?_
          refine lv_iconst (v := 4) hx hb dX8_settling_38 (by decide) ?_
          obtain ⟨v17, uF7_18, h19, hf⟩ := xb2_of hf
          refine x_calliV (As := [.int 4]) (rest := []) (σ' := (wA, wT, wG, wM, (uF0, uF1, uF2, uF3, uF4, uF5, uF6, uF7_18, uF8, uF9, uF10, uF11, uF12, uF13, uF14, uF15, uF16, uF17, uF18), wO)) hc hw hl.1 (m_X8_refuses h19) kX8_182 co_245 rfl rfl ⟨rfl, rfl⟩ ⟨Nat.le_of_ble_eq_true rfl, Nat.le_of_ble_eq_true rfl⟩ ⟨Nat.zero_le _, Nat.zero_le _⟩ (Nat.le_of_ble_eq_true rfl) dX8_settling_39 (fun H locs hw => ?_)
          cases hf
          exact K _ _ _ _ dX8_settling_42 rfl hw
      · have hf := xif_f c7 hf
        refine lv_iconst (v := 2) hx hb dX8_settling_23 (by decide) ?_
        cases hf
        exact K _ _ _ _ dX8_settling_24 rfl hw
    · have hf := xif_t c6 hf
      refine lv_iconst (v := 1) hx hb dX8_settling_16 (by decide) ?_
      cases hf
      exact K _ _ _ _ dX8_settling_17 rfl hw
def f_X8_grows (x1 : Int32) (uF1 : xF64) : Option (Int64 × xF64) :=
  xb1 (f_X8_debtAt x1 4) fun v1 => (xk (xin v1 304) (xb1 (f_X8_debtAt x1 2) fun v4 => (xk (xin v4 304) (xk (xin 1 304) (xk (xin (6 + (uF1 (1 : Int32).toNatClampNeg).toInt32) 304) (xb1 (f_X8_debtAt x1 4) fun v9 => (xk (xin v9 304) (xb1 (f_X8_debtAt x1 3) fun v12 => (xk (xin v12 304) (xk (xin v12 304) (some ((((uF1 v1.toNatClampNeg) + ((uF1 v4.toNatClampNeg) * (uF1 (6 + (uF1 (1 : Int32).toNatClampNeg).toInt32).toNatClampNeg))) / 3600000), (vp_updL (vp_updL uF1 v9.toNatClampNeg (((uF1 v1.toNatClampNeg) + ((uF1 v4.toNatClampNeg) * (uF1 (6 + (uF1 (1 : Int32).toNatClampNeg).toInt32).toNatClampNeg))) - ((uF1 v1.toNatClampNeg) + ((uF1 v4.toNatClampNeg) * (uF1 (6 + (uF1 (1 : Int32).toNatClampNeg).toInt32).toNatClampNeg))) / 3600000 * 3600000)) v12.toNatClampNeg (((vp_updL uF1 v9.toNatClampNeg (((uF1 v1.toNatClampNeg) + ((uF1 v4.toNatClampNeg) * (uF1 (6 + (uF1 (1 : Int32).toNatClampNeg).toInt32).toNatClampNeg))) - ((uF1 v1.toNatClampNeg) + ((uF1 v4.toNatClampNeg) * (uF1 (6 + (uF1 (1 : Int32).toNatClampNeg).toInt32).toNatClampNeg))) / 3600000 * 3600000)) v12.toNatClampNeg) + (((uF1 v1.toNatClampNeg) + ((uF1 v4.toNatClampNeg) * (uF1 (6 + (uF1 (1 : Int32).toNatClampNeg).toInt32).toNatClampNeg))) / 3600000)))))))))))))))
set_option maxHeartbeats 4000000 in
set_option maxRecDepth 100000 in
theorem m_X8_grows {l : Launch} {κ : xKt} {wA : Nat → sAcc} {wT : sTxt} {wG : sRng} {wM : sMai} {wO : sOut}  {x1 : Int32} {uF0 : Int32} {uF1 : xF64} {uF2 : xF64} {uF3 : xF64} {uF4 : xF64} {uF5 : Int32} {uF6 : Int32} {uF7 : Int32} {uF8 : xF32} {uF9 : Int32} {uF10 : Int32} {uF11 : Int64} {uF12 : xF32} {uF13 : Int32} {uF14 : Int32} {uF15 : Int32} {uF16 : xF32} {uF17 : xF32} {uF18 : Int32} {rr : Int64} {yF1 : xF64} (hf : f_X8_grows x1 uF1 = some (rr, yF1)) : xMl l κ yX8_grows cX8_grows 4 (some .long) (xR 1 0 0) [.ref (xAd κ 245), .int x1] (wA, wT, wG, wM, (uF0, uF1, uF2, uF3, uF4, uF5, uF6, uF7, uF8, uF9, uF10, uF11, uF12, uF13, uF14, uF15, uF16, uF17, uF18), wO) (wA, wT, wG, wM, (uF0, yF1, uF2, uF3, uF4, uF5, uF6, uF7, uF8, uF9, uF10, uF11, uF12, uF13, uF14, uF15, uF16, uF17, uF18), wO) rr := by
  unfold f_X8_grows at hf
  refine xMl_of pn_X8 (Nat.le_of_ble_eq_true rfl) ⟨rfl, rfl⟩ ?_
  intro A p e s m args below meth c ls Q hc hw hl K
  have hc : xC κ A p s m args meth c cX8_grows RX8 4 (some .long) := hc
  have hx := hc.1.1
  have hb := hc.1.2.1
  have hl : lv_has ls 4 [(0, .ref (xAd κ 245)), (1, .int x1)] := hl
  refine lv_aload_n hx hb dX8_grows_0 rfl (lv_at hl 0 rfl) ?_
  refine x_get (v := .ref (xAd κ 246)) hc hw co_245 fX8_7 rfl dX8_grows_1 ?_
  refine lv_aload_n hx hb dX8_grows_4 rfl (lv_at hl 0 rfl) ?_
  refine lv_iload_n hx hb dX8_grows_5 rfl (lv_at hl 1 rfl) ?_
  refine lv_iconst (v := 4) hx hb dX8_grows_6 (by decide) ?_
  obtain ⟨v1, h2, hf⟩ := xb1_of hf
  refine x_calliV (As := [.int x1, .int 4]) (rest := [.ref (xAd κ 246)]) (σ' := (wA, wT, wG, wM, (uF0, uF1, uF2, uF3, uF4, uF5, uF6, uF7, uF8, uF9, uF10, uF11, uF12, uF13, uF14, uF15, uF16, uF17, uF18), wO)) hc hw hl.1 (m_X8_debtAt h2) kX8_140 co_245 rfl rfl ⟨rfl, rfl⟩ ⟨Nat.le_of_ble_eq_true rfl, Nat.le_of_ble_eq_true rfl⟩ ⟨Nat.zero_le _, Nat.zero_le _⟩ (Nat.le_of_ble_eq_true rfl) dX8_grows_7 (fun H locs hw => ?_)
  obtain ⟨k3, hf⟩ := xk_of hf
  refine x_lald (n := 304) (f := uF1) hc hw co_246 k3 dX8_grows_10 ?_
  refine lv_aload_n hx hb dX8_grows_11 rfl (lv_at hl 0 rfl) ?_
  refine x_get (v := .ref (xAd κ 246)) hc hw co_245 fX8_7 rfl dX8_grows_12 ?_
  refine lv_aload_n hx hb dX8_grows_15 rfl (lv_at hl 0 rfl) ?_
  refine lv_iload_n hx hb dX8_grows_16 rfl (lv_at hl 1 rfl) ?_
  refine lv_iconst (v := 2) hx hb dX8_grows_17 (by decide) ?_
  obtain ⟨v4, h5, hf⟩ := xb1_of hf
  refine x_calliV (As := [.int x1, .int 2]) (rest := [.ref (xAd κ 246), .long (uF1 v1.toNatClampNeg)]) (σ' := (wA, wT, wG, wM, (uF0, uF1, uF2, uF3, uF4, uF5, uF6, uF7, uF8, uF9, uF10, uF11, uF12, uF13, uF14, uF15, uF16, uF17, uF18), wO)) hc hw hl.1 (m_X8_debtAt h5) kX8_140 co_245 rfl rfl ⟨rfl, rfl⟩ ⟨Nat.le_of_ble_eq_true rfl, Nat.le_of_ble_eq_true rfl⟩ ⟨Nat.zero_le _, Nat.zero_le _⟩ (Nat.le_of_ble_eq_true rfl) dX8_grows_18 (fun H locs hw => ?_)
  obtain ⟨k6, hf⟩ := xk_of hf
  refine x_lald (n := 304) (f := uF1) hc hw co_246 k6 dX8_grows_21 ?_
  refine lv_aload_n hx hb dX8_grows_22 rfl (lv_at hl 0 rfl) ?_
  refine x_get (v := .ref (xAd κ 246)) hc hw co_245 fX8_7 rfl dX8_grows_23 ?_
  refine lv_bipush (v := 6) hx hb dX8_grows_26 (by decide) ?_
  refine lv_aload_n hx hb dX8_grows_28 rfl (lv_at hl 0 rfl) ?_
  refine x_get (v := .ref (xAd κ 246)) hc hw co_245 fX8_7 rfl dX8_grows_29 ?_
  refine lv_iconst (v := 1) hx hb dX8_grows_32 (by decide) ?_
  obtain ⟨k7, hf⟩ := xk_of hf
  refine x_lald (n := 304) (f := uF1) hc hw co_246 k7 dX8_grows_33 ?_
  refine lv_l2i (v := (uF1 (1 : Int32).toNatClampNeg).toInt32) hx hb dX8_grows_34 rfl ?_
  refine lv_iadd hx hb dX8_grows_35 ?_
  obtain ⟨k8, hf⟩ := xk_of hf
  refine x_lald (n := 304) (f := uF1) hc hw co_246 k8 dX8_grows_36 ?_
  refine lv_lmul hx hb dX8_grows_37 ?_
  refine lv_ladd hx hb dX8_grows_38 ?_
  refine lv_lstore_n (lv' := [(2, .long ((uF1 v1.toNatClampNeg) + ((uF1 v4.toNatClampNeg) * (uF1 (6 + (uF1 (1 : Int32).toNatClampNeg).toInt32).toNatClampNeg)))), (0, .ref (xAd κ 245)), (1, .int x1)]) hx hb dX8_grows_39 rfl hl (by decide) rfl (fun ls hl => ?_)
  refine lv_aload_n hx hb dX8_grows_40 rfl (lv_at hl 1 rfl) ?_
  refine x_get (v := .ref (xAd κ 246)) hc hw co_245 fX8_7 rfl dX8_grows_41 ?_
  refine lv_aload_n hx hb dX8_grows_44 rfl (lv_at hl 1 rfl) ?_
  refine lv_iload_n hx hb dX8_grows_45 rfl (lv_at hl 2 rfl) ?_
  refine lv_iconst (v := 4) hx hb dX8_grows_46 (by decide) ?_
  obtain ⟨v9, h10, hf⟩ := xb1_of hf
  refine x_calliV (As := [.int x1, .int 4]) (rest := [.ref (xAd κ 246)]) (σ' := (wA, wT, wG, wM, (uF0, uF1, uF2, uF3, uF4, uF5, uF6, uF7, uF8, uF9, uF10, uF11, uF12, uF13, uF14, uF15, uF16, uF17, uF18), wO)) hc hw hl.1 (m_X8_debtAt h10) kX8_140 co_245 rfl rfl ⟨rfl, rfl⟩ ⟨Nat.le_of_ble_eq_true rfl, Nat.le_of_ble_eq_true rfl⟩ ⟨Nat.zero_le _, Nat.zero_le _⟩ (Nat.le_of_ble_eq_true rfl) dX8_grows_47 (fun H locs hw => ?_)
  refine lv_lload_n hx hb dX8_grows_50 rfl (lv_at hl 0 rfl) ?_
  refine x_ldc2 hc w_constantLong_RX8_203_3600000 dX8_grows_51 ?_
  refine lv_lrem hx hb dX8_grows_54 (by decide) ?_
  obtain ⟨k11, hf⟩ := xk_of hf
  refine x_last (n := 304) (f := uF1) (σ' := (wA, wT, wG, wM, (uF0, (vp_updL uF1 v9.toNatClampNeg (((uF1 v1.toNatClampNeg) + ((uF1 v4.toNatClampNeg) * (uF1 (6 + (uF1 (1 : Int32).toNatClampNeg).toInt32).toNatClampNeg))) - ((uF1 v1.toNatClampNeg) + ((uF1 v4.toNatClampNeg) * (uF1 (6 + (uF1 (1 : Int32).toNatClampNeg).toInt32).toNatClampNeg))) / 3600000 * 3600000)), uF2, uF3, uF4, uF5, uF6, uF7, uF8, uF9, uF10, uF11, uF12, uF13, uF14, uF15, uF16, uF17, uF18), wO)) hc hw co_246 k11 so_F_1 dX8_grows_55 (fun H locs hw => ?_)
  refine lv_aload_n hx hb dX8_grows_56 rfl (lv_at hl 1 rfl) ?_
  refine x_get (v := .ref (xAd κ 246)) hc hw co_245 fX8_7 rfl dX8_grows_57 ?_
  refine lv_aload_n hx hb dX8_grows_60 rfl (lv_at hl 1 rfl) ?_
  refine lv_iload_n hx hb dX8_grows_61 rfl (lv_at hl 2 rfl) ?_
  refine lv_iconst (v := 3) hx hb dX8_grows_62 (by decide) ?_
  obtain ⟨v12, h13, hf⟩ := xb1_of hf
  refine x_calliV (As := [.int x1, .int 3]) (rest := [.ref (xAd κ 246)]) (σ' := (wA, wT, wG, wM, (uF0, (vp_updL uF1 v9.toNatClampNeg (((uF1 v1.toNatClampNeg) + ((uF1 v4.toNatClampNeg) * (uF1 (6 + (uF1 (1 : Int32).toNatClampNeg).toInt32).toNatClampNeg))) - ((uF1 v1.toNatClampNeg) + ((uF1 v4.toNatClampNeg) * (uF1 (6 + (uF1 (1 : Int32).toNatClampNeg).toInt32).toNatClampNeg))) / 3600000 * 3600000)), uF2, uF3, uF4, uF5, uF6, uF7, uF8, uF9, uF10, uF11, uF12, uF13, uF14, uF15, uF16, uF17, uF18), wO)) hc hw hl.1 (m_X8_debtAt h13) kX8_140 co_245 rfl rfl ⟨rfl, rfl⟩ ⟨Nat.le_of_ble_eq_true rfl, Nat.le_of_ble_eq_true rfl⟩ ⟨Nat.zero_le _, Nat.zero_le _⟩ (Nat.le_of_ble_eq_true rfl) dX8_grows_63 (fun H locs hw => ?_)
  refine lv_dup2_11 hx hb dX8_grows_66 rfl rfl ?_
  obtain ⟨k14, hf⟩ := xk_of hf
  refine x_lald (n := 304) (f := (vp_updL uF1 v9.toNatClampNeg (((uF1 v1.toNatClampNeg) + ((uF1 v4.toNatClampNeg) * (uF1 (6 + (uF1 (1 : Int32).toNatClampNeg).toInt32).toNatClampNeg))) - ((uF1 v1.toNatClampNeg) + ((uF1 v4.toNatClampNeg) * (uF1 (6 + (uF1 (1 : Int32).toNatClampNeg).toInt32).toNatClampNeg))) / 3600000 * 3600000))) hc hw co_246 k14 dX8_grows_67 ?_
  refine lv_lload_n hx hb dX8_grows_68 rfl (lv_at hl 0 rfl) ?_
  refine x_ldc2 hc w_constantLong_RX8_203_3600000 dX8_grows_69 ?_
  refine lv_ldiv hx hb dX8_grows_72 (by decide) ?_
  refine lv_ladd hx hb dX8_grows_73 ?_
  obtain ⟨k15, hf⟩ := xk_of hf
  refine x_last (n := 304) (f := (vp_updL uF1 v9.toNatClampNeg (((uF1 v1.toNatClampNeg) + ((uF1 v4.toNatClampNeg) * (uF1 (6 + (uF1 (1 : Int32).toNatClampNeg).toInt32).toNatClampNeg))) - ((uF1 v1.toNatClampNeg) + ((uF1 v4.toNatClampNeg) * (uF1 (6 + (uF1 (1 : Int32).toNatClampNeg).toInt32).toNatClampNeg))) / 3600000 * 3600000))) (σ' := (wA, wT, wG, wM, (uF0, (vp_updL (vp_updL uF1 v9.toNatClampNeg (((uF1 v1.toNatClampNeg) + ((uF1 v4.toNatClampNeg) * (uF1 (6 + (uF1 (1 : Int32).toNatClampNeg).toInt32).toNatClampNeg))) - ((uF1 v1.toNatClampNeg) + ((uF1 v4.toNatClampNeg) * (uF1 (6 + (uF1 (1 : Int32).toNatClampNeg).toInt32).toNatClampNeg))) / 3600000 * 3600000)) v12.toNatClampNeg (((vp_updL uF1 v9.toNatClampNeg (((uF1 v1.toNatClampNeg) + ((uF1 v4.toNatClampNeg) * (uF1 (6 + (uF1 (1 : Int32).toNatClampNeg).toInt32).toNatClampNeg))) - ((uF1 v1.toNatClampNeg) + ((uF1 v4.toNatClampNeg) * (uF1 (6 + (uF1 (1 : Int32).toNatClampNeg).toInt32).toNatClampNeg))) / 3600000 * 3600000)) v12.toNatClampNeg) + (((uF1 v1.toNatClampNeg) + ((uF1 v4.toNatClampNeg) * (uF1 (6 + (uF1 (1 : Int32).toNatClampNeg).toInt32).toNatClampNeg))) / 3600000))), uF2, uF3, uF4, uF5, uF6, uF7, uF8, uF9, uF10, uF11, uF12, uF13, uF14, uF15, uF16, uF17, uF18), wO)) hc hw co_246 k15 so_F_1 dX8_grows_74 (fun H locs hw => ?_)
  refine lv_lload_n hx hb dX8_grows_75 rfl (lv_at hl 0 rfl) ?_
  refine x_ldc2 hc w_constantLong_RX8_203_3600000 dX8_grows_76 ?_
  refine lv_ldiv hx hb dX8_grows_79 (by decide) ?_
  cases hf
  exact K _ _ _ _ dX8_grows_80 hw
def f_X8_passing_45 (kx0 : Int32 → Int32 → xF64 → Int64 → Option (Int32 × xF64 × Int64)) (fu : Nat) : Nat → (Int32) → (Int32) → (Int32) → (xF64) → (Int64) → Option (Int32 × xF64 × Int64)
  | 0, _, _, _, _, _ => none
  | n + 1, x1, x2, x3, uF1, uF11 => xb1 (f_X8_debts uF1) fun v9 => (if v9 ≤ x3 then (kx0 x1 x2 uF1 uF11) else (xb2 (f_X8_grows x3 uF1) fun v12 uF1_13 => (f_X8_passing_45 kx0 fu n x1 x2 (x3 + 1) uF1_13 (uF11 + v12))))
def f_X8_passing_38 (fu : Nat) : Nat → (Int32) → (Int32) → (xF64) → (Int64) → Option (Int32 × xF64 × Int64)
  | 0, _, _, _, _ => none
  | n + 1, x1, x2, uF1, uF11 => if x1 ≤ x2 then (xk (xin 0 304) (xk (xin 0 304) (some (0, (vp_updL uF1 (0 : Int32).toNatClampNeg ((uF1 (0 : Int32).toNatClampNeg) + x1.toInt64)), uF11)))) else (f_X8_passing_45 (fun n15 n16 uF1_17 uF11_18 => (f_X8_passing_38 fu n n15 (n16 + 1) uF1_17 uF11_18)) fu fu x1 x2 0 uF1 uF11)
def f_X8_passing (fu : Nat) (x1 : Int32) (uF1 : xF64) (uF11 : Int64) : Option (Int32 × xF64 × Int64) :=
  xb1 (f_X8_in x1 0 999) fun v1 => (if v1 = 0 then (some (1, uF1, uF11)) else (xk (xin 0 304) (if ((uF1 (0 : Int32).toNatClampNeg) + x1.toInt64) ≤ 3650 then (f_X8_passing_38 fu fu x1 0 uF1 0) else (some (2, uF1, uF11)))))
set_option maxHeartbeats 4000000 in
set_option maxRecDepth 100000 in
theorem l_X8_passing_45 {l : Launch} {κ : xKt} {wA : Nat → sAcc} {wT : sTxt} {wG : sRng} {wM : sMai} {wO : sOut} {fu : Nat} {uF0 : Int32} {uF2 : xF64} {uF3 : xF64} {uF4 : xF64} {uF5 : Int32} {uF6 : Int32} {uF7 : Int32} {uF8 : xF32} {uF9 : Int32} {uF10 : Int32} {uF12 : xF32} {uF13 : Int32} {uF14 : Int32} {uF15 : Int32} {uF16 : xF32} {uF17 : xF32} {uF18 : Int32} {A : Nat → Prop} {p : Program} {e : Env} {s : State} {m : MethodId} {args : Array Value} {below : List Frame} {meth : Method} {c : Code} {Q : State → Prop} {rr : Int32} {yF1 : xF64} {yF11 : Int64} {kx0 : Int32 → Int32 → xF64 → Int64 → Option (Int32 × xF64 × Int64)}
    (hc : xC κ A p s m args meth c cX8_passing RX8 4 (some .int))
    (K : ∀ (pc : Nat) (ls : Array Slot) (H : Heap) (locs : List Loc), decode cX8_passing pc = .ok (.ireturn, 1) → narrow .int (.int rr) = .int rr → xW κ A s (wA, wT, wG, wM, (uF0, yF1, uF2, uF3, uF4, uF5, uF6, uF7, uF8, uF9, uF10, yF11, uF12, uF13, uF14, uF15, uF16, uF17, uF18), wO) H locs → W p l e (xR 2 0 0) s m args below meth c H locs 0 0 Q (F0 m pc ls [.int rr])) (hk0 : ∀ (x1 : Int32) (x2 : Int32) (uF1 : xF64) (uF11 : Int64) (H : Heap) (locs : List Loc) (ls : Array Slot), kx0 x1 x2 uF1 uF11 = some (rr, yF1, yF11) → xW κ A s (wA, wT, wG, wM, (uF0, uF1, uF2, uF3, uF4, uF5, uF6, uF7, uF8, uF9, uF10, uF11, uF12, uF13, uF14, uF15, uF16, uF17, uF18), wO) H locs → lv_has ls 4 [(0, .ref (xAd κ 245)), (1, .int x1), (2, .int x2)] → W p l e (xR 2 0 0) s m args below meth c H locs 0 0 Q (F0 m 73 ls [])) :
    ∀ (n : Nat) (x1 : Int32) (x2 : Int32) (x3 : Int32) (uF1 : xF64) (uF11 : Int64) (H : Heap) (locs : List Loc) (ls : Array Slot), f_X8_passing_45 kx0 fu n x1 x2 x3 uF1 uF11 = some (rr, yF1, yF11) → xW κ A s (wA, wT, wG, wM, (uF0, uF1, uF2, uF3, uF4, uF5, uF6, uF7, uF8, uF9, uF10, uF11, uF12, uF13, uF14, uF15, uF16, uF17, uF18), wO) H locs → lv_has ls 4 [(0, .ref (xAd κ 245)), (1, .int x1), (2, .int x2), (3, .int x3)] → W p l e (xR 2 0 0) s m args below meth c H locs 0 0 Q (F0 m 45 ls []) := by
  have hx := hc.1.1
  have hb := hc.1.2.1
  intro n
  induction n with
  | zero =>
    intro x1 x2 x3 uF1 uF11 H locs ls hf
    rw [f_X8_passing_45] at hf
    cases hf
  | succ n hi =>
    intro x1 x2 x3 uF1 uF11 H locs ls hf hw hl
    rw [f_X8_passing_45] at hf
    refine lv_iload_n hx hb dX8_passing_45 rfl (lv_at hl 3 rfl) ?_
    refine lv_aload_n hx hb dX8_passing_46 rfl (lv_at hl 0 rfl) ?_
    obtain ⟨v9, h10, hf⟩ := xb1_of hf
    refine x_calliV (As := []) (rest := [.int x3]) (σ' := (wA, wT, wG, wM, (uF0, uF1, uF2, uF3, uF4, uF5, uF6, uF7, uF8, uF9, uF10, uF11, uF12, uF13, uF14, uF15, uF16, uF17, uF18), wO)) hc hw hl.1 (m_X8_debts h10) kX8_70 co_245 rfl rfl ⟨rfl, rfl⟩ ⟨Nat.le_of_ble_eq_true rfl, Nat.le_of_ble_eq_true rfl⟩ ⟨Nat.zero_le _, Nat.zero_le _⟩ (Nat.le_of_ble_eq_true rfl) dX8_passing_47 (fun H locs hw => ?_)
    refine lv_icmp_ge (tgt := 73) hx hb dX8_passing_50 (by decide) (fun c11 => ?_) (fun c11 => ?_)
    · have hf := xif_t c11 hf
      exact hk0 _ _ _ _ _ _ _ hf hw (lv_sub hl [0, 1, 2] rfl)
    · have hf := xif_f c11 hf
      refine lv_aload_n hx hb dX8_passing_53 rfl (lv_at hl 0 rfl) ?_
      refine lv_dup hx hb dX8_passing_54 rfl ?_
      refine x_get (v := .long uF11) hc hw co_245 fX8_175 rfl dX8_passing_55 ?_
      refine lv_aload_n hx hb dX8_passing_58 rfl (lv_at hl 0 rfl) ?_
      refine lv_iload_n hx hb dX8_passing_59 rfl (lv_at hl 3 rfl) ?_
      obtain ⟨v12, uF1_13, h14, hf⟩ := xb2_of hf
      refine x_calllV (As := [.int x3]) (rest := [.long uF11, .ref (xAd κ 245)]) (σ' := (wA, wT, wG, wM, (uF0, uF1_13, uF2, uF3, uF4, uF5, uF6, uF7, uF8, uF9, uF10, uF11, uF12, uF13, uF14, uF15, uF16, uF17, uF18), wO)) hc hw hl.1 (m_X8_grows h14) kX8_207 co_245 rfl rfl ⟨rfl, rfl⟩ ⟨Nat.le_of_ble_eq_true rfl, Nat.le_of_ble_eq_true rfl⟩ ⟨Nat.zero_le _, Nat.zero_le _⟩ (Nat.le_of_ble_eq_true rfl) dX8_passing_60 (fun H locs hw => ?_)
      refine lv_ladd hx hb dX8_passing_63 ?_
      refine x_put (σ' := (wA, wT, wG, wM, (uF0, uF1_13, uF2, uF3, uF4, uF5, uF6, uF7, uF8, uF9, uF10, (uF11 + v12), uF12, uF13, uF14, uF15, uF16, uF17, uF18), wO)) hc hw co_245 fX8_175 rfl rfl (Nat.le_of_ble_eq_true rfl) so_F_11 dX8_passing_64 (fun H locs hw => ?_)
      refine lv_iinc (v := (x3 + 1)) (lv' := [(3, .int (x3 + 1)), (0, .ref (xAd κ 245)), (1, .int x1), (2, .int x2)]) hx hb dX8_passing_67 hl (k := 3) rfl rfl (by decide) rfl (fun ls hl => ?_)
      refine lv_goto (tgt := 45) hx hb dX8_passing_70 (by decide) ?_
      exact hi _ _ _ _ _ _ _ _ hf hw (lv_sub hl [1, 2, 3, 0] rfl)
set_option maxHeartbeats 4000000 in
set_option maxRecDepth 100000 in
theorem l_X8_passing_38 {l : Launch} {κ : xKt} {wA : Nat → sAcc} {wT : sTxt} {wG : sRng} {wM : sMai} {wO : sOut} {fu : Nat} {uF0 : Int32} {uF2 : xF64} {uF3 : xF64} {uF4 : xF64} {uF5 : Int32} {uF6 : Int32} {uF7 : Int32} {uF8 : xF32} {uF9 : Int32} {uF10 : Int32} {uF12 : xF32} {uF13 : Int32} {uF14 : Int32} {uF15 : Int32} {uF16 : xF32} {uF17 : xF32} {uF18 : Int32} {A : Nat → Prop} {p : Program} {e : Env} {s : State} {m : MethodId} {args : Array Value} {below : List Frame} {meth : Method} {c : Code} {Q : State → Prop} {rr : Int32} {yF1 : xF64} {yF11 : Int64}
    (hc : xC κ A p s m args meth c cX8_passing RX8 4 (some .int))
    (K : ∀ (pc : Nat) (ls : Array Slot) (H : Heap) (locs : List Loc), decode cX8_passing pc = .ok (.ireturn, 1) → narrow .int (.int rr) = .int rr → xW κ A s (wA, wT, wG, wM, (uF0, yF1, uF2, uF3, uF4, uF5, uF6, uF7, uF8, uF9, uF10, yF11, uF12, uF13, uF14, uF15, uF16, uF17, uF18), wO) H locs → W p l e (xR 2 0 0) s m args below meth c H locs 0 0 Q (F0 m pc ls [.int rr])) :
    ∀ (n : Nat) (x1 : Int32) (x2 : Int32) (uF1 : xF64) (uF11 : Int64) (H : Heap) (locs : List Loc) (ls : Array Slot), f_X8_passing_38 fu n x1 x2 uF1 uF11 = some (rr, yF1, yF11) → xW κ A s (wA, wT, wG, wM, (uF0, uF1, uF2, uF3, uF4, uF5, uF6, uF7, uF8, uF9, uF10, uF11, uF12, uF13, uF14, uF15, uF16, uF17, uF18), wO) H locs → lv_has ls 4 [(0, .ref (xAd κ 245)), (1, .int x1), (2, .int x2)] → W p l e (xR 2 0 0) s m args below meth c H locs 0 0 Q (F0 m 38 ls []) := by
  have hx := hc.1.1
  have hb := hc.1.2.1
  intro n
  induction n with
  | zero =>
    intro x1 x2 uF1 uF11 H locs ls hf
    rw [f_X8_passing_38] at hf
    cases hf
  | succ n hi =>
    intro x1 x2 uF1 uF11 H locs ls hf hw hl
    rw [f_X8_passing_38] at hf
    refine lv_iload_n hx hb dX8_passing_38 rfl (lv_at hl 2 rfl) ?_
    refine lv_iload_n hx hb dX8_passing_39 rfl (lv_at hl 1 rfl) ?_
    refine lv_icmp_ge (tgt := 79) hx hb dX8_passing_40 (by decide) (fun c6 => ?_) (fun c6 => ?_)
    · have hf := xif_t c6 hf
      refine lv_aload_n hx hb dX8_passing_79 rfl (lv_at hl 0 rfl) ?_
      refine x_get (v := .ref (xAd κ 246)) hc hw co_245 fX8_7 rfl dX8_passing_80 ?_
      refine lv_iconst (v := 0) hx hb dX8_passing_83 (by decide) ?_
      refine lv_dup2_11 hx hb dX8_passing_84 rfl rfl ?_
      obtain ⟨k7, hf⟩ := xk_of hf
      refine x_lald (n := 304) (f := uF1) hc hw co_246 k7 dX8_passing_85 ?_
      refine lv_iload_n hx hb dX8_passing_86 rfl (lv_at hl 1 rfl) ?_
      refine lv_i2l (v := x1.toInt64) hx hb dX8_passing_87 rfl ?_
      refine lv_ladd hx hb dX8_passing_88 ?_
      obtain ⟨k8, hf⟩ := xk_of hf
      refine x_last (n := 304) (f := uF1) (σ' := (wA, wT, wG, wM, (uF0, (vp_updL uF1 (0 : Int32).toNatClampNeg ((uF1 (0 : Int32).toNatClampNeg) + x1.toInt64)), uF2, uF3, uF4, uF5, uF6, uF7, uF8, uF9, uF10, uF11, uF12, uF13, uF14, uF15, uF16, uF17, uF18), wO)) hc hw co_246 k8 so_F_1 dX8_passing_89 (fun H locs hw => ?_)
      refine lv_iconst (v := 0) hx hb dX8_passing_90 (by decide) ?_
      cases hf
      exact K _ _ _ _ dX8_passing_91 rfl hw
    · have hf := xif_f c6 hf
      refine lv_iconst (v := 0) hx hb dX8_passing_43 (by decide) ?_
      refine lv_istore_n (lv' := [(3, .int 0), (0, .ref (xAd κ 245)), (1, .int x1), (2, .int x2)]) hx hb dX8_passing_44 rfl hl (by decide) rfl (fun ls hl => ?_)
      refine l_X8_passing_45 hc K (fun n15 n16 uF1_17 uF11_18 H locs ls hf hw hl => ?_) fu _ _ _ _ _ _ _ _ hf hw (lv_sub hl [1, 2, 3, 0] rfl)
      refine lv_iinc (v := (n16 + 1)) (lv' := [(2, .int (n16 + 1)), (0, .ref (xAd κ 245)), (1, .int n15)]) hx hb dX8_passing_73 hl (k := 2) rfl rfl (by decide) rfl (fun ls hl => ?_)
      refine lv_goto (tgt := 38) hx hb dX8_passing_76 (by decide) ?_
      exact hi _ _ _ _ _ _ _ hf hw (lv_sub hl [1, 2, 0] rfl)
set_option maxHeartbeats 4000000 in
set_option maxRecDepth 100000 in
theorem m_X8_passing {l : Launch} {κ : xKt} {wA : Nat → sAcc} {wT : sTxt} {wG : sRng} {wM : sMai} {wO : sOut} {fu : Nat} {x1 : Int32} {uF0 : Int32} {uF1 : xF64} {uF2 : xF64} {uF3 : xF64} {uF4 : xF64} {uF5 : Int32} {uF6 : Int32} {uF7 : Int32} {uF8 : xF32} {uF9 : Int32} {uF10 : Int32} {uF11 : Int64} {uF12 : xF32} {uF13 : Int32} {uF14 : Int32} {uF15 : Int32} {uF16 : xF32} {uF17 : xF32} {uF18 : Int32} {rr : Int32} {yF1 : xF64} {yF11 : Int64} (hf : f_X8_passing fu x1 uF1 uF11 = some (rr, yF1, yF11)) : xMi l κ yX8_passing cX8_passing 4 (some .int) (xR 2 0 0) [.ref (xAd κ 245), .int x1] (wA, wT, wG, wM, (uF0, uF1, uF2, uF3, uF4, uF5, uF6, uF7, uF8, uF9, uF10, uF11, uF12, uF13, uF14, uF15, uF16, uF17, uF18), wO) (wA, wT, wG, wM, (uF0, yF1, uF2, uF3, uF4, uF5, uF6, uF7, uF8, uF9, uF10, yF11, uF12, uF13, uF14, uF15, uF16, uF17, uF18), wO) rr := by
  unfold f_X8_passing at hf
  refine xMi_of pn_X8 (Nat.le_of_ble_eq_true rfl) ⟨rfl, rfl⟩ ?_
  intro A p e s m args below meth c ls Q hc hw hl K
  have hc : xC κ A p s m args meth c cX8_passing RX8 4 (some .int) := hc
  have hx := hc.1.1
  have hb := hc.1.2.1
  have hl : lv_has ls 4 [(0, .ref (xAd κ 245)), (1, .int x1)] := hl
  refine lv_iload_n hx hb dX8_passing_0 rfl (lv_at hl 1 rfl) ?_
  refine lv_iconst (v := 0) hx hb dX8_passing_1 (by decide) ?_
  refine lv_sipush (v := 999) hx hb dX8_passing_2 (by decide) ?_
  obtain ⟨v1, h2, hf⟩ := xb1_of hf
  refine x_calliS (As := [.int x1, .int 0, .int 999]) (rest := []) (σ' := (wA, wT, wG, wM, (uF0, uF1, uF2, uF3, uF4, uF5, uF6, uF7, uF8, uF9, uF10, uF11, uF12, uF13, uF14, uF15, uF16, uF17, uF18), wO)) hc hw hl.1 (m_X8_in h2) kX8_63 rfl rfl ⟨rfl, rfl⟩ ⟨Nat.le_of_ble_eq_true rfl, Nat.le_of_ble_eq_true rfl⟩ ⟨Nat.zero_le _, Nat.zero_le _⟩ (Nat.le_of_ble_eq_true rfl) dX8_passing_5 (fun H locs hw => ?_)
  refine lv_if_ne (tgt := 13) hx hb dX8_passing_8 (by decide) (fun c3 => ?_) (fun c3 => ?_)
  · have hf := xif_f c3 hf
    refine lv_aload_n hx hb dX8_passing_13 rfl (lv_at hl 0 rfl) ?_
    refine x_get (v := .ref (xAd κ 246)) hc hw co_245 fX8_7 rfl dX8_passing_14 ?_
    refine lv_iconst (v := 0) hx hb dX8_passing_17 (by decide) ?_
    obtain ⟨k4, hf⟩ := xk_of hf
    refine x_lald (n := 304) (f := uF1) hc hw co_246 k4 dX8_passing_18 ?_
    refine lv_iload_n hx hb dX8_passing_19 rfl (lv_at hl 1 rfl) ?_
    refine lv_i2l (v := x1.toInt64) hx hb dX8_passing_20 rfl ?_
    refine lv_ladd hx hb dX8_passing_21 ?_
    refine x_ldc2 hc w_constantLong_RX8_205_3650 dX8_passing_22 ?_
    refine x_lcmp_le (tgt := 31) hx hb dX8_passing_25 dX8_passing_26 (by decide) (fun c5 => ?_) (fun c5 => ?_)
    · have hf := xif_t c5 hf
      refine lv_aload_n hx hb dX8_passing_31 rfl (lv_at hl 0 rfl) ?_
      refine lv_lconst (v := 0) hx hb dX8_passing_32 (by decide) ?_
      refine x_put (σ' := (wA, wT, wG, wM, (uF0, uF1, uF2, uF3, uF4, uF5, uF6, uF7, uF8, uF9, uF10, 0, uF12, uF13, uF14, uF15, uF16, uF17, uF18), wO)) hc hw co_245 fX8_175 rfl rfl (Nat.le_of_ble_eq_true rfl) so_F_11 dX8_passing_33 (fun H locs hw => ?_)
      refine lv_iconst (v := 0) hx hb dX8_passing_36 (by decide) ?_
      refine lv_istore_n (lv' := [(2, .int 0), (0, .ref (xAd κ 245)), (1, .int x1)]) hx hb dX8_passing_37 rfl hl (by decide) rfl (fun ls hl => ?_)
      exact l_X8_passing_38 hc K fu _ _ _ _ _ _ _ hf hw (lv_sub hl [1, 2, 0] rfl)
    · have hf := xif_f c5 hf
      refine lv_iconst (v := 2) hx hb dX8_passing_29 (by decide) ?_
      cases hf
      exact K _ _ _ _ dX8_passing_30 rfl hw
  · have hf := xif_t c3 hf
    refine lv_iconst (v := 1) hx hb dX8_passing_11 (by decide) ?_
    cases hf
    exact K _ _ _ _ dX8_passing_12 rfl hw
def f_X8_goingOn (uF1 : xF64) (uF11 : Int64) : Option (Int32 × xF64 × Int64) :=
  xk (xin 1 304) (if (uF1 (1 : Int32).toNatClampNeg) = 3 then (some (1, uF1, uF11)) else (xk (xin 1 304) (xk (xin 1 304) (xk (xin 1 304) (some (0, (vp_updL uF1 (1 : Int32).toNatClampNeg ((uF1 (1 : Int32).toNatClampNeg) + 1)), ((vp_updL uF1 (1 : Int32).toNatClampNeg ((uF1 (1 : Int32).toNatClampNeg) + 1)) (1 : Int32).toNatClampNeg)))))))
set_option maxHeartbeats 4000000 in
set_option maxRecDepth 100000 in
theorem m_X8_goingOn {l : Launch} {κ : xKt} {wA : Nat → sAcc} {wT : sTxt} {wG : sRng} {wM : sMai} {wO : sOut}  {uF0 : Int32} {uF1 : xF64} {uF2 : xF64} {uF3 : xF64} {uF4 : xF64} {uF5 : Int32} {uF6 : Int32} {uF7 : Int32} {uF8 : xF32} {uF9 : Int32} {uF10 : Int32} {uF11 : Int64} {uF12 : xF32} {uF13 : Int32} {uF14 : Int32} {uF15 : Int32} {uF16 : xF32} {uF17 : xF32} {uF18 : Int32} {rr : Int32} {yF1 : xF64} {yF11 : Int64} (hf : f_X8_goingOn uF1 uF11 = some (rr, yF1, yF11)) : xMi l κ yX8_goingOn cX8_goingOn 1 (some .int) (xR 0 0 0) [.ref (xAd κ 245)] (wA, wT, wG, wM, (uF0, uF1, uF2, uF3, uF4, uF5, uF6, uF7, uF8, uF9, uF10, uF11, uF12, uF13, uF14, uF15, uF16, uF17, uF18), wO) (wA, wT, wG, wM, (uF0, yF1, uF2, uF3, uF4, uF5, uF6, uF7, uF8, uF9, uF10, yF11, uF12, uF13, uF14, uF15, uF16, uF17, uF18), wO) rr := by
  unfold f_X8_goingOn at hf
  refine xMi_of pn_X8 (Nat.le_of_ble_eq_true rfl) ⟨rfl, rfl⟩ ?_
  intro A p e s m args below meth c ls Q hc hw hl K
  have hc : xC κ A p s m args meth c cX8_goingOn RX8 1 (some .int) := hc
  have hx := hc.1.1
  have hb := hc.1.2.1
  have hl : lv_has ls 1 [(0, .ref (xAd κ 245))] := hl
  refine lv_aload_n hx hb dX8_goingOn_0 rfl (lv_at hl 0 rfl) ?_
  refine x_get (v := .ref (xAd κ 246)) hc hw co_245 fX8_7 rfl dX8_goingOn_1 ?_
  refine lv_iconst (v := 1) hx hb dX8_goingOn_4 (by decide) ?_
  obtain ⟨k1, hf⟩ := xk_of hf
  refine x_lald (n := 304) (f := uF1) hc hw co_246 k1 dX8_goingOn_5 ?_
  refine x_ldc2 hc w_constantLong_RX8_173_3 dX8_goingOn_6 ?_
  refine x_lcmp_ne (tgt := 15) hx hb dX8_goingOn_9 dX8_goingOn_10 (by decide) (fun c2 => ?_) (fun c2 => ?_)
  · have hf := xif_f c2 hf
    refine lv_aload_n hx hb dX8_goingOn_15 rfl (lv_at hl 0 rfl) ?_
    refine x_get (v := .ref (xAd κ 246)) hc hw co_245 fX8_7 rfl dX8_goingOn_16 ?_
    refine lv_iconst (v := 1) hx hb dX8_goingOn_19 (by decide) ?_
    refine lv_dup2_11 hx hb dX8_goingOn_20 rfl rfl ?_
    obtain ⟨k3, hf⟩ := xk_of hf
    refine x_lald (n := 304) (f := uF1) hc hw co_246 k3 dX8_goingOn_21 ?_
    refine lv_lconst (v := 1) hx hb dX8_goingOn_22 (by decide) ?_
    refine lv_ladd hx hb dX8_goingOn_23 ?_
    obtain ⟨k4, hf⟩ := xk_of hf
    refine x_last (n := 304) (f := uF1) (σ' := (wA, wT, wG, wM, (uF0, (vp_updL uF1 (1 : Int32).toNatClampNeg ((uF1 (1 : Int32).toNatClampNeg) + 1)), uF2, uF3, uF4, uF5, uF6, uF7, uF8, uF9, uF10, uF11, uF12, uF13, uF14, uF15, uF16, uF17, uF18), wO)) hc hw co_246 k4 so_F_1 dX8_goingOn_24 (fun H locs hw => ?_)
    refine lv_aload_n hx hb dX8_goingOn_25 rfl (lv_at hl 0 rfl) ?_
    refine lv_aload_n hx hb dX8_goingOn_26 rfl (lv_at hl 0 rfl) ?_
    refine x_get (v := .ref (xAd κ 246)) hc hw co_245 fX8_7 rfl dX8_goingOn_27 ?_
    refine lv_iconst (v := 1) hx hb dX8_goingOn_30 (by decide) ?_
    obtain ⟨k5, hf⟩ := xk_of hf
    refine x_lald (n := 304) (f := (vp_updL uF1 (1 : Int32).toNatClampNeg ((uF1 (1 : Int32).toNatClampNeg) + 1))) hc hw co_246 k5 dX8_goingOn_31 ?_
    refine x_put (σ' := (wA, wT, wG, wM, (uF0, (vp_updL uF1 (1 : Int32).toNatClampNeg ((uF1 (1 : Int32).toNatClampNeg) + 1)), uF2, uF3, uF4, uF5, uF6, uF7, uF8, uF9, uF10, ((vp_updL uF1 (1 : Int32).toNatClampNeg ((uF1 (1 : Int32).toNatClampNeg) + 1)) (1 : Int32).toNatClampNeg), uF12, uF13, uF14, uF15, uF16, uF17, uF18), wO)) hc hw co_245 fX8_175 rfl rfl (Nat.le_of_ble_eq_true rfl) so_F_11 dX8_goingOn_32 (fun H locs hw => ?_)
    refine lv_iconst (v := 0) hx hb dX8_goingOn_35 (by decide) ?_
    cases hf
    exact K _ _ _ _ dX8_goingOn_36 rfl hw
  · have hf := xif_t c2 hf
    refine lv_iconst (v := 1) hx hb dX8_goingOn_13 (by decide) ?_
    cases hf
    exact K _ _ _ _ dX8_goingOn_14 rfl hw
def f_X8_ends (fu : Nat) (x1 : Int32) (uF0 : Int32) (uF3 : xF64) (uF4 : xF64) (uF5 : Int32) (uF11 : Int64) : Option (Int64 × Int32 × xF64 × Int32) :=
  if x1 = 9 then (some (0, 3, uF4, uF5)) else (if x1 ≤ 0 then (xb2 (f_X8_keeps fu uF3 uF4 uF5) fun uF4_3 uF5_4 => (some (uF11, x1, uF4_3, uF5_4))) else (some (0, x1, uF4, uF5)))
set_option maxHeartbeats 4000000 in
set_option maxRecDepth 100000 in
theorem m_X8_ends {l : Launch} {κ : xKt} {wA : Nat → sAcc} {wT : sTxt} {wG : sRng} {wM : sMai} {wO : sOut} {fu : Nat} {x1 : Int32} {uF0 : Int32} {uF1 : xF64} {uF2 : xF64} {uF3 : xF64} {uF4 : xF64} {uF5 : Int32} {uF6 : Int32} {uF7 : Int32} {uF8 : xF32} {uF9 : Int32} {uF10 : Int32} {uF11 : Int64} {uF12 : xF32} {uF13 : Int32} {uF14 : Int32} {uF15 : Int32} {uF16 : xF32} {uF17 : xF32} {uF18 : Int32} {rr : Int64} {yF0 : Int32} {yF4 : xF64} {yF5 : Int32} (hf : f_X8_ends fu x1 uF0 uF3 uF4 uF5 uF11 = some (rr, yF0, yF4, yF5)) : xMl l κ yX8_ends cX8_ends 2 (some .long) (xR 1 0 0) [.ref (xAd κ 245), .int x1] (wA, wT, wG, wM, (uF0, uF1, uF2, uF3, uF4, uF5, uF6, uF7, uF8, uF9, uF10, uF11, uF12, uF13, uF14, uF15, uF16, uF17, uF18), wO) (wA, wT, wG, wM, (yF0, uF1, uF2, uF3, yF4, yF5, uF6, uF7, uF8, uF9, uF10, uF11, uF12, uF13, uF14, uF15, uF16, uF17, uF18), wO) rr := by
  unfold f_X8_ends at hf
  refine xMl_of pn_X8 (Nat.le_of_ble_eq_true rfl) ⟨rfl, rfl⟩ ?_
  intro A p e s m args below meth c ls Q hc hw hl K
  have hc : xC κ A p s m args meth c cX8_ends RX8 2 (some .long) := hc
  have hx := hc.1.1
  have hb := hc.1.2.1
  have hl : lv_has ls 2 [(0, .ref (xAd κ 245)), (1, .int x1)] := hl
  refine lv_aload_n hx hb dX8_ends_0 rfl (lv_at hl 0 rfl) ?_
  refine lv_iload_n hx hb dX8_ends_1 rfl (lv_at hl 1 rfl) ?_
  refine lv_bipush (v := 9) hx hb dX8_ends_2 (by decide) ?_
  refine lv_icmp_ne (tgt := 11) hx hb dX8_ends_4 (by decide) (fun c1 => ?_) (fun c1 => ?_)
  · have hf := xif_f c1 hf
    refine lv_iload_n hx hb dX8_ends_11 rfl (lv_at hl 1 rfl) ?_
    refine x_put (σ' := (wA, wT, wG, wM, (x1, uF1, uF2, uF3, uF4, uF5, uF6, uF7, uF8, uF9, uF10, uF11, uF12, uF13, uF14, uF15, uF16, uF17, uF18), wO)) hc hw co_245 fX8_42 rfl rfl (Nat.le_of_ble_eq_true rfl) so_F_0 dX8_ends_12 (fun H locs hw => ?_)
    refine lv_aload_n hx hb dX8_ends_15 rfl (lv_at hl 0 rfl) ?_
    refine x_get (v := .int x1) hc hw co_245 fX8_42 rfl dX8_ends_16 ?_
    refine lv_if_le (tgt := 24) hx hb dX8_ends_19 (by decide) (fun c2 => ?_) (fun c2 => ?_)
    · have hf := xif_t c2 hf
      refine lv_aload_n hx hb dX8_ends_24 rfl (lv_at hl 0 rfl) ?_
      obtain ⟨uF4_3, uF5_4, h5, hf⟩ := xb2_of hf
      refine x_callvV (As := []) (rest := []) (σ' := (wA, wT, wG, wM, (x1, uF1, uF2, uF3, uF4_3, uF5_4, uF6, uF7, uF8, uF9, uF10, uF11, uF12, uF13, uF14, uF15, uF16, uF17, uF18), wO)) hc hw hl.1 (m_X8_keeps h5) kX8_83 co_245 rfl rfl ⟨rfl, rfl⟩ ⟨Nat.le_of_ble_eq_true rfl, Nat.le_of_ble_eq_true rfl⟩ ⟨Nat.zero_le _, Nat.zero_le _⟩ (Nat.le_of_ble_eq_true rfl) dX8_ends_25 (fun H locs hw => ?_)
      refine lv_aload_n hx hb dX8_ends_28 rfl (lv_at hl 0 rfl) ?_
      refine x_get (v := .long uF11) hc hw co_245 fX8_175 rfl dX8_ends_29 ?_
      cases hf
      exact K _ _ _ _ dX8_ends_32 hw
    · have hf := xif_f c2 hf
      refine lv_lconst (v := 0) hx hb dX8_ends_22 (by decide) ?_
      cases hf
      exact K _ _ _ _ dX8_ends_23 hw
  · have hf := xif_t c1 hf
    refine lv_iconst (v := 3) hx hb dX8_ends_7 (by decide) ?_
    refine lv_goto (tgt := 12) hx hb dX8_ends_8 (by decide) ?_
    refine x_put (σ' := (wA, wT, wG, wM, (3, uF1, uF2, uF3, uF4, uF5, uF6, uF7, uF8, uF9, uF10, uF11, uF12, uF13, uF14, uF15, uF16, uF17, uF18), wO)) hc hw co_245 fX8_42 rfl rfl (Nat.le_of_ble_eq_true rfl) so_F_0 dX8_ends_12 (fun H locs hw => ?_)
    refine lv_aload_n hx hb dX8_ends_15 rfl (lv_at hl 0 rfl) ?_
    refine x_get (v := .int 3) hc hw co_245 fX8_42 rfl dX8_ends_16 ?_
    refine lv_if_le (tgt := 24) hx hb dX8_ends_19 (by decide) (fun q => absurd q (by decide)) (fun _ => ?_)
    refine lv_lconst (v := 0) hx hb dX8_ends_22 (by decide) ?_
    cases hf
    exact K _ _ _ _ dX8_ends_23 hw
def f_X8_claim (fu : Nat) (x1 : Int32) (x2 : Int32) (x3 : Int32) (uF0 : Int32) (uF1 : xF64) (uF3 : xF64) (uF4 : xF64) (uF5 : Int32) (uF11 : Int64) : Option (Int32 × Int32 × xF64 × xF64 × xF64 × Int32 × Int64) :=
  xb1 (f_X8_remembers fu uF1 uF3) fun uF3_1 => (xb3 (f_X8_claiming x1 x2 x3 uF1 uF11) fun v3 uF1_4 uF11_5 => (xb4 (f_X8_ends fu v3 uF0 uF3_1 uF4 uF5 uF11_5) fun v7 uF0_8 uF4_9 uF5_10 => (some (v7.toInt32, uF0_8, uF1_4, uF3_1, uF4_9, uF5_10, uF11_5))))
set_option maxHeartbeats 4000000 in
set_option maxRecDepth 100000 in
theorem m_X8_claim {l : Launch} {κ : xKt} {wA : Nat → sAcc} {wT : sTxt} {wG : sRng} {wM : sMai} {wO : sOut} {fu : Nat} {x1 : Int32} {x2 : Int32} {x3 : Int32} {uF0 : Int32} {uF1 : xF64} {uF2 : xF64} {uF3 : xF64} {uF4 : xF64} {uF5 : Int32} {uF6 : Int32} {uF7 : Int32} {uF8 : xF32} {uF9 : Int32} {uF10 : Int32} {uF11 : Int64} {uF12 : xF32} {uF13 : Int32} {uF14 : Int32} {uF15 : Int32} {uF16 : xF32} {uF17 : xF32} {uF18 : Int32} {rr : Int32} {yF0 : Int32} {yF1 : xF64} {yF3 : xF64} {yF4 : xF64} {yF5 : Int32} {yF11 : Int64} (hf : f_X8_claim fu x1 x2 x3 uF0 uF1 uF3 uF4 uF5 uF11 = some (rr, yF0, yF1, yF3, yF4, yF5, yF11)) : xMi l κ yX8_claim cX8_claim 4 (some .int) (xR 3 0 0) [.ref (xAd κ 245), .int x1, .int x2, .int x3] (wA, wT, wG, wM, (uF0, uF1, uF2, uF3, uF4, uF5, uF6, uF7, uF8, uF9, uF10, uF11, uF12, uF13, uF14, uF15, uF16, uF17, uF18), wO) (wA, wT, wG, wM, (yF0, yF1, uF2, yF3, yF4, yF5, uF6, uF7, uF8, uF9, uF10, yF11, uF12, uF13, uF14, uF15, uF16, uF17, uF18), wO) rr := by
  unfold f_X8_claim at hf
  refine xMi_of pn_X8 (Nat.le_of_ble_eq_true rfl) ⟨rfl, rfl⟩ ?_
  intro A p e s m args below meth c ls Q hc hw hl K
  have hc : xC κ A p s m args meth c cX8_claim RX8 4 (some .int) := hc
  have hx := hc.1.1
  have hb := hc.1.2.1
  have hl : lv_has ls 4 [(0, .ref (xAd κ 245)), (1, .int x1), (2, .int x2), (3, .int x3)] := hl
  refine lv_aload_n hx hb dX8_claim_0 rfl (lv_at hl 0 rfl) ?_
  obtain ⟨uF3_1, h2, hf⟩ := xb1_of hf
  refine x_callvV (As := []) (rest := []) (σ' := (wA, wT, wG, wM, (uF0, uF1, uF2, uF3_1, uF4, uF5, uF6, uF7, uF8, uF9, uF10, uF11, uF12, uF13, uF14, uF15, uF16, uF17, uF18), wO)) hc hw hl.1 (m_X8_remembers h2) kX8_76 co_245 rfl rfl ⟨rfl, rfl⟩ ⟨Nat.le_of_ble_eq_true rfl, Nat.le_of_ble_eq_true rfl⟩ ⟨Nat.zero_le _, Nat.zero_le _⟩ (Nat.le_of_ble_eq_true rfl) dX8_claim_1 (fun H locs hw => ?_)
  refine lv_aload_n hx hb dX8_claim_4 rfl (lv_at hl 0 rfl) ?_
  refine lv_aload_n hx hb dX8_claim_5 rfl (lv_at hl 0 rfl) ?_
  refine lv_iload_n hx hb dX8_claim_6 rfl (lv_at hl 1 rfl) ?_
  refine lv_iload_n hx hb dX8_claim_7 rfl (lv_at hl 2 rfl) ?_
  refine lv_iload_n hx hb dX8_claim_8 rfl (lv_at hl 3 rfl) ?_
  obtain ⟨v3, uF1_4, uF11_5, h6, hf⟩ := xb3_of hf
  refine x_calliV (As := [.int x1, .int x2, .int x3]) (rest := [.ref (xAd κ 245)]) (σ' := (wA, wT, wG, wM, (uF0, uF1_4, uF2, uF3_1, uF4, uF5, uF6, uF7, uF8, uF9, uF10, uF11_5, uF12, uF13, uF14, uF15, uF16, uF17, uF18), wO)) hc hw hl.1 (m_X8_claiming h6) kX8_210 co_245 rfl rfl ⟨rfl, rfl⟩ ⟨Nat.le_of_ble_eq_true rfl, Nat.le_of_ble_eq_true rfl⟩ ⟨Nat.zero_le _, Nat.zero_le _⟩ (Nat.le_of_ble_eq_true rfl) dX8_claim_9 (fun H locs hw => ?_)
  obtain ⟨v7, uF0_8, uF4_9, uF5_10, h11, hf⟩ := xb4_of hf
  refine x_calllV (As := [.int v3]) (rest := []) (σ' := (wA, wT, wG, wM, (uF0_8, uF1_4, uF2, uF3_1, uF4_9, uF5_10, uF6, uF7, uF8, uF9, uF10, uF11_5, uF12, uF13, uF14, uF15, uF16, uF17, uF18), wO)) hc hw hl.1 (m_X8_ends h11) kX8_214 co_245 rfl rfl ⟨rfl, rfl⟩ ⟨Nat.le_of_ble_eq_true rfl, Nat.le_of_ble_eq_true rfl⟩ ⟨Nat.zero_le _, Nat.zero_le _⟩ (Nat.le_of_ble_eq_true rfl) dX8_claim_12 (fun H locs hw => ?_)
  refine lv_l2i (v := v7.toInt32) hx hb dX8_claim_15 rfl ?_
  cases hf
  exact K _ _ _ _ dX8_claim_16 rfl hw
def f_X8_award (fu : Nat) (x1 : Int32) (x2 : Int32) (uF0 : Int32) (uF1 : xF64) (uF3 : xF64) (uF4 : xF64) (uF5 : Int32) (uF7 : Int32) (uF11 : Int64) : Option (Int32 × Int32 × xF64 × xF64 × xF64 × Int32 × Int32 × Int64) :=
  xb1 (f_X8_remembers fu uF1 uF3) fun uF3_1 => (xb4 (f_X8_deciding fu 1 x1 x2 uF1 uF7 uF11) fun v3 uF1_4 uF7_5 uF11_6 => (xb4 (f_X8_ends fu v3 uF0 uF3_1 uF4 uF5 uF11_6) fun v8 uF0_9 uF4_10 uF5_11 => (some (v8.toInt32, uF0_9, uF1_4, uF3_1, uF4_10, uF5_11, uF7_5, uF11_6))))
set_option maxHeartbeats 4000000 in
set_option maxRecDepth 100000 in
theorem m_X8_award {l : Launch} {κ : xKt} {wA : Nat → sAcc} {wT : sTxt} {wG : sRng} {wM : sMai} {wO : sOut} {fu : Nat} {x1 : Int32} {x2 : Int32} {uF0 : Int32} {uF1 : xF64} {uF2 : xF64} {uF3 : xF64} {uF4 : xF64} {uF5 : Int32} {uF6 : Int32} {uF7 : Int32} {uF8 : xF32} {uF9 : Int32} {uF10 : Int32} {uF11 : Int64} {uF12 : xF32} {uF13 : Int32} {uF14 : Int32} {uF15 : Int32} {uF16 : xF32} {uF17 : xF32} {uF18 : Int32} {rr : Int32} {yF0 : Int32} {yF1 : xF64} {yF3 : xF64} {yF4 : xF64} {yF5 : Int32} {yF7 : Int32} {yF11 : Int64} (hf : f_X8_award fu x1 x2 uF0 uF1 uF3 uF4 uF5 uF7 uF11 = some (rr, yF0, yF1, yF3, yF4, yF5, yF7, yF11)) : xMi l κ yX8_award cX8_award 3 (some .int) (xR 4 0 0) [.ref (xAd κ 245), .int x1, .int x2] (wA, wT, wG, wM, (uF0, uF1, uF2, uF3, uF4, uF5, uF6, uF7, uF8, uF9, uF10, uF11, uF12, uF13, uF14, uF15, uF16, uF17, uF18), wO) (wA, wT, wG, wM, (yF0, yF1, uF2, yF3, yF4, yF5, uF6, yF7, uF8, uF9, uF10, yF11, uF12, uF13, uF14, uF15, uF16, uF17, uF18), wO) rr := by
  unfold f_X8_award at hf
  refine xMi_of pn_X8 (Nat.le_of_ble_eq_true rfl) ⟨rfl, rfl⟩ ?_
  intro A p e s m args below meth c ls Q hc hw hl K
  have hc : xC κ A p s m args meth c cX8_award RX8 3 (some .int) := hc
  have hx := hc.1.1
  have hb := hc.1.2.1
  have hl : lv_has ls 3 [(0, .ref (xAd κ 245)), (1, .int x1), (2, .int x2)] := hl
  refine lv_aload_n hx hb dX8_award_0 rfl (lv_at hl 0 rfl) ?_
  obtain ⟨uF3_1, h2, hf⟩ := xb1_of hf
  refine x_callvV (As := []) (rest := []) (σ' := (wA, wT, wG, wM, (uF0, uF1, uF2, uF3_1, uF4, uF5, uF6, uF7, uF8, uF9, uF10, uF11, uF12, uF13, uF14, uF15, uF16, uF17, uF18), wO)) hc hw hl.1 (m_X8_remembers h2) kX8_76 co_245 rfl rfl ⟨rfl, rfl⟩ ⟨Nat.le_of_ble_eq_true rfl, Nat.le_of_ble_eq_true rfl⟩ ⟨Nat.zero_le _, Nat.zero_le _⟩ (Nat.le_of_ble_eq_true rfl) dX8_award_1 (fun H locs hw => ?_)
  refine lv_aload_n hx hb dX8_award_4 rfl (lv_at hl 0 rfl) ?_
  refine lv_aload_n hx hb dX8_award_5 rfl (lv_at hl 0 rfl) ?_
  refine lv_iconst (v := 1) hx hb dX8_award_6 (by decide) ?_
  refine lv_iload_n hx hb dX8_award_7 rfl (lv_at hl 1 rfl) ?_
  refine lv_iload_n hx hb dX8_award_8 rfl (lv_at hl 2 rfl) ?_
  obtain ⟨v3, uF1_4, uF7_5, uF11_6, h7, hf⟩ := xb4_of hf
  refine x_calliV (As := [.int 1, .int x1, .int x2]) (rest := [.ref (xAd κ 245)]) (σ' := (wA, wT, wG, wM, (uF0, uF1_4, uF2, uF3_1, uF4, uF5, uF6, uF7_5, uF8, uF9, uF10, uF11_6, uF12, uF13, uF14, uF15, uF16, uF17, uF18), wO)) hc hw hl.1 (m_X8_deciding h7) kX8_217 co_245 rfl rfl ⟨rfl, rfl⟩ ⟨Nat.le_of_ble_eq_true rfl, Nat.le_of_ble_eq_true rfl⟩ ⟨Nat.zero_le _, Nat.zero_le _⟩ (Nat.le_of_ble_eq_true rfl) dX8_award_9 (fun H locs hw => ?_)
  obtain ⟨v8, uF0_9, uF4_10, uF5_11, h12, hf⟩ := xb4_of hf
  refine x_calllV (As := [.int v3]) (rest := []) (σ' := (wA, wT, wG, wM, (uF0_9, uF1_4, uF2, uF3_1, uF4_10, uF5_11, uF6, uF7_5, uF8, uF9, uF10, uF11_6, uF12, uF13, uF14, uF15, uF16, uF17, uF18), wO)) hc hw hl.1 (m_X8_ends h12) kX8_214 co_245 rfl rfl ⟨rfl, rfl⟩ ⟨Nat.le_of_ble_eq_true rfl, Nat.le_of_ble_eq_true rfl⟩ ⟨Nat.zero_le _, Nat.zero_le _⟩ (Nat.le_of_ble_eq_true rfl) dX8_award_12 (fun H locs hw => ?_)
  refine lv_l2i (v := v8.toInt32) hx hb dX8_award_15 rfl ?_
  cases hf
  exact K _ _ _ _ dX8_award_16 rfl hw
def f_X8_dismiss (fu : Nat) (x1 : Int32) (x2 : Int32) (uF0 : Int32) (uF1 : xF64) (uF3 : xF64) (uF4 : xF64) (uF5 : Int32) (uF7 : Int32) (uF11 : Int64) : Option (Int32 × Int32 × xF64 × xF64 × xF64 × Int32 × Int32 × Int64) :=
  xb1 (f_X8_remembers fu uF1 uF3) fun uF3_1 => (xb4 (f_X8_deciding fu 2 x1 x2 uF1 uF7 uF11) fun v3 uF1_4 uF7_5 uF11_6 => (xb4 (f_X8_ends fu v3 uF0 uF3_1 uF4 uF5 uF11_6) fun v8 uF0_9 uF4_10 uF5_11 => (some (v8.toInt32, uF0_9, uF1_4, uF3_1, uF4_10, uF5_11, uF7_5, uF11_6))))
set_option maxHeartbeats 4000000 in
set_option maxRecDepth 100000 in
theorem m_X8_dismiss {l : Launch} {κ : xKt} {wA : Nat → sAcc} {wT : sTxt} {wG : sRng} {wM : sMai} {wO : sOut} {fu : Nat} {x1 : Int32} {x2 : Int32} {uF0 : Int32} {uF1 : xF64} {uF2 : xF64} {uF3 : xF64} {uF4 : xF64} {uF5 : Int32} {uF6 : Int32} {uF7 : Int32} {uF8 : xF32} {uF9 : Int32} {uF10 : Int32} {uF11 : Int64} {uF12 : xF32} {uF13 : Int32} {uF14 : Int32} {uF15 : Int32} {uF16 : xF32} {uF17 : xF32} {uF18 : Int32} {rr : Int32} {yF0 : Int32} {yF1 : xF64} {yF3 : xF64} {yF4 : xF64} {yF5 : Int32} {yF7 : Int32} {yF11 : Int64} (hf : f_X8_dismiss fu x1 x2 uF0 uF1 uF3 uF4 uF5 uF7 uF11 = some (rr, yF0, yF1, yF3, yF4, yF5, yF7, yF11)) : xMi l κ yX8_dismiss cX8_dismiss 3 (some .int) (xR 4 0 0) [.ref (xAd κ 245), .int x1, .int x2] (wA, wT, wG, wM, (uF0, uF1, uF2, uF3, uF4, uF5, uF6, uF7, uF8, uF9, uF10, uF11, uF12, uF13, uF14, uF15, uF16, uF17, uF18), wO) (wA, wT, wG, wM, (yF0, yF1, uF2, yF3, yF4, yF5, uF6, yF7, uF8, uF9, uF10, yF11, uF12, uF13, uF14, uF15, uF16, uF17, uF18), wO) rr := by
  unfold f_X8_dismiss at hf
  refine xMi_of pn_X8 (Nat.le_of_ble_eq_true rfl) ⟨rfl, rfl⟩ ?_
  intro A p e s m args below meth c ls Q hc hw hl K
  have hc : xC κ A p s m args meth c cX8_dismiss RX8 3 (some .int) := hc
  have hx := hc.1.1
  have hb := hc.1.2.1
  have hl : lv_has ls 3 [(0, .ref (xAd κ 245)), (1, .int x1), (2, .int x2)] := hl
  refine lv_aload_n hx hb dX8_dismiss_0 rfl (lv_at hl 0 rfl) ?_
  obtain ⟨uF3_1, h2, hf⟩ := xb1_of hf
  refine x_callvV (As := []) (rest := []) (σ' := (wA, wT, wG, wM, (uF0, uF1, uF2, uF3_1, uF4, uF5, uF6, uF7, uF8, uF9, uF10, uF11, uF12, uF13, uF14, uF15, uF16, uF17, uF18), wO)) hc hw hl.1 (m_X8_remembers h2) kX8_76 co_245 rfl rfl ⟨rfl, rfl⟩ ⟨Nat.le_of_ble_eq_true rfl, Nat.le_of_ble_eq_true rfl⟩ ⟨Nat.zero_le _, Nat.zero_le _⟩ (Nat.le_of_ble_eq_true rfl) dX8_dismiss_1 (fun H locs hw => ?_)
  refine lv_aload_n hx hb dX8_dismiss_4 rfl (lv_at hl 0 rfl) ?_
  refine lv_aload_n hx hb dX8_dismiss_5 rfl (lv_at hl 0 rfl) ?_
  refine lv_iconst (v := 2) hx hb dX8_dismiss_6 (by decide) ?_
  refine lv_iload_n hx hb dX8_dismiss_7 rfl (lv_at hl 1 rfl) ?_
  refine lv_iload_n hx hb dX8_dismiss_8 rfl (lv_at hl 2 rfl) ?_
  obtain ⟨v3, uF1_4, uF7_5, uF11_6, h7, hf⟩ := xb4_of hf
  refine x_calliV (As := [.int 2, .int x1, .int x2]) (rest := [.ref (xAd κ 245)]) (σ' := (wA, wT, wG, wM, (uF0, uF1_4, uF2, uF3_1, uF4, uF5, uF6, uF7_5, uF8, uF9, uF10, uF11_6, uF12, uF13, uF14, uF15, uF16, uF17, uF18), wO)) hc hw hl.1 (m_X8_deciding h7) kX8_217 co_245 rfl rfl ⟨rfl, rfl⟩ ⟨Nat.le_of_ble_eq_true rfl, Nat.le_of_ble_eq_true rfl⟩ ⟨Nat.zero_le _, Nat.zero_le _⟩ (Nat.le_of_ble_eq_true rfl) dX8_dismiss_9 (fun H locs hw => ?_)
  obtain ⟨v8, uF0_9, uF4_10, uF5_11, h12, hf⟩ := xb4_of hf
  refine x_calllV (As := [.int v3]) (rest := []) (σ' := (wA, wT, wG, wM, (uF0_9, uF1_4, uF2, uF3_1, uF4_10, uF5_11, uF6, uF7_5, uF8, uF9, uF10, uF11_6, uF12, uF13, uF14, uF15, uF16, uF17, uF18), wO)) hc hw hl.1 (m_X8_ends h12) kX8_214 co_245 rfl rfl ⟨rfl, rfl⟩ ⟨Nat.le_of_ble_eq_true rfl, Nat.le_of_ble_eq_true rfl⟩ ⟨Nat.zero_le _, Nat.zero_le _⟩ (Nat.le_of_ble_eq_true rfl) dX8_dismiss_12 (fun H locs hw => ?_)
  refine lv_l2i (v := v8.toInt32) hx hb dX8_dismiss_15 rfl ?_
  cases hf
  exact K _ _ _ _ dX8_dismiss_16 rfl hw
def f_X8_withdraw (fu : Nat) (x1 : Int32) (x2 : Int32) (uF0 : Int32) (uF1 : xF64) (uF3 : xF64) (uF4 : xF64) (uF5 : Int32) (uF7 : Int32) (uF11 : Int64) : Option (Int32 × Int32 × xF64 × xF64 × xF64 × Int32 × Int32 × Int64) :=
  xb1 (f_X8_remembers fu uF1 uF3) fun uF3_1 => (xb4 (f_X8_deciding fu 3 x1 x2 uF1 uF7 uF11) fun v3 uF1_4 uF7_5 uF11_6 => (xb4 (f_X8_ends fu v3 uF0 uF3_1 uF4 uF5 uF11_6) fun v8 uF0_9 uF4_10 uF5_11 => (some (v8.toInt32, uF0_9, uF1_4, uF3_1, uF4_10, uF5_11, uF7_5, uF11_6))))
set_option maxHeartbeats 4000000 in
set_option maxRecDepth 100000 in
theorem m_X8_withdraw {l : Launch} {κ : xKt} {wA : Nat → sAcc} {wT : sTxt} {wG : sRng} {wM : sMai} {wO : sOut} {fu : Nat} {x1 : Int32} {x2 : Int32} {uF0 : Int32} {uF1 : xF64} {uF2 : xF64} {uF3 : xF64} {uF4 : xF64} {uF5 : Int32} {uF6 : Int32} {uF7 : Int32} {uF8 : xF32} {uF9 : Int32} {uF10 : Int32} {uF11 : Int64} {uF12 : xF32} {uF13 : Int32} {uF14 : Int32} {uF15 : Int32} {uF16 : xF32} {uF17 : xF32} {uF18 : Int32} {rr : Int32} {yF0 : Int32} {yF1 : xF64} {yF3 : xF64} {yF4 : xF64} {yF5 : Int32} {yF7 : Int32} {yF11 : Int64} (hf : f_X8_withdraw fu x1 x2 uF0 uF1 uF3 uF4 uF5 uF7 uF11 = some (rr, yF0, yF1, yF3, yF4, yF5, yF7, yF11)) : xMi l κ yX8_withdraw cX8_withdraw 3 (some .int) (xR 4 0 0) [.ref (xAd κ 245), .int x1, .int x2] (wA, wT, wG, wM, (uF0, uF1, uF2, uF3, uF4, uF5, uF6, uF7, uF8, uF9, uF10, uF11, uF12, uF13, uF14, uF15, uF16, uF17, uF18), wO) (wA, wT, wG, wM, (yF0, yF1, uF2, yF3, yF4, yF5, uF6, yF7, uF8, uF9, uF10, yF11, uF12, uF13, uF14, uF15, uF16, uF17, uF18), wO) rr := by
  unfold f_X8_withdraw at hf
  refine xMi_of pn_X8 (Nat.le_of_ble_eq_true rfl) ⟨rfl, rfl⟩ ?_
  intro A p e s m args below meth c ls Q hc hw hl K
  have hc : xC κ A p s m args meth c cX8_withdraw RX8 3 (some .int) := hc
  have hx := hc.1.1
  have hb := hc.1.2.1
  have hl : lv_has ls 3 [(0, .ref (xAd κ 245)), (1, .int x1), (2, .int x2)] := hl
  refine lv_aload_n hx hb dX8_withdraw_0 rfl (lv_at hl 0 rfl) ?_
  obtain ⟨uF3_1, h2, hf⟩ := xb1_of hf
  refine x_callvV (As := []) (rest := []) (σ' := (wA, wT, wG, wM, (uF0, uF1, uF2, uF3_1, uF4, uF5, uF6, uF7, uF8, uF9, uF10, uF11, uF12, uF13, uF14, uF15, uF16, uF17, uF18), wO)) hc hw hl.1 (m_X8_remembers h2) kX8_76 co_245 rfl rfl ⟨rfl, rfl⟩ ⟨Nat.le_of_ble_eq_true rfl, Nat.le_of_ble_eq_true rfl⟩ ⟨Nat.zero_le _, Nat.zero_le _⟩ (Nat.le_of_ble_eq_true rfl) dX8_withdraw_1 (fun H locs hw => ?_)
  refine lv_aload_n hx hb dX8_withdraw_4 rfl (lv_at hl 0 rfl) ?_
  refine lv_aload_n hx hb dX8_withdraw_5 rfl (lv_at hl 0 rfl) ?_
  refine lv_iconst (v := 3) hx hb dX8_withdraw_6 (by decide) ?_
  refine lv_iload_n hx hb dX8_withdraw_7 rfl (lv_at hl 1 rfl) ?_
  refine lv_iload_n hx hb dX8_withdraw_8 rfl (lv_at hl 2 rfl) ?_
  obtain ⟨v3, uF1_4, uF7_5, uF11_6, h7, hf⟩ := xb4_of hf
  refine x_calliV (As := [.int 3, .int x1, .int x2]) (rest := [.ref (xAd κ 245)]) (σ' := (wA, wT, wG, wM, (uF0, uF1_4, uF2, uF3_1, uF4, uF5, uF6, uF7_5, uF8, uF9, uF10, uF11_6, uF12, uF13, uF14, uF15, uF16, uF17, uF18), wO)) hc hw hl.1 (m_X8_deciding h7) kX8_217 co_245 rfl rfl ⟨rfl, rfl⟩ ⟨Nat.le_of_ble_eq_true rfl, Nat.le_of_ble_eq_true rfl⟩ ⟨Nat.zero_le _, Nat.zero_le _⟩ (Nat.le_of_ble_eq_true rfl) dX8_withdraw_9 (fun H locs hw => ?_)
  obtain ⟨v8, uF0_9, uF4_10, uF5_11, h12, hf⟩ := xb4_of hf
  refine x_calllV (As := [.int v3]) (rest := []) (σ' := (wA, wT, wG, wM, (uF0_9, uF1_4, uF2, uF3_1, uF4_10, uF5_11, uF6, uF7_5, uF8, uF9, uF10, uF11_6, uF12, uF13, uF14, uF15, uF16, uF17, uF18), wO)) hc hw hl.1 (m_X8_ends h12) kX8_214 co_245 rfl rfl ⟨rfl, rfl⟩ ⟨Nat.le_of_ble_eq_true rfl, Nat.le_of_ble_eq_true rfl⟩ ⟨Nat.zero_le _, Nat.zero_le _⟩ (Nat.le_of_ble_eq_true rfl) dX8_withdraw_12 (fun H locs hw => ?_)
  refine lv_l2i (v := v8.toInt32) hx hb dX8_withdraw_15 rfl ?_
  cases hf
  exact K _ _ _ _ dX8_withdraw_16 rfl hw
def f_X8_claimed (x1 : Int32) (x2 : Int32) (uF0 : Int32) (uF1 : xF64) : Option (Int32 × Int32) :=
  xb1 (f_X8_isClaim x1 uF1) fun v1 => (if v1 = 0 then (xb2 (f_X8_fails 1 0) fun v16 uF0_17 => (some (v16, uF0_17))) else (xb1 (f_X8_in x2 0 5) fun v4 => (if v4 = 0 then (if x2 = 6 then (xb1 (f_X8_restOf x1 uF1) fun v11 => (some (v11.toInt32, 0))) else (xb2 (f_X8_fails 2 0) fun v8 uF0_9 => (some (v8, uF0_9)))) else (xb1 (f_X8_claimAt x1 x2) fun v13 => (xk (xin v13 304) (some ((uF1 v13.toNatClampNeg).toInt32, 0)))))))
set_option maxHeartbeats 4000000 in
set_option maxRecDepth 100000 in
theorem m_X8_claimed {l : Launch} {κ : xKt} {wA : Nat → sAcc} {wT : sTxt} {wG : sRng} {wM : sMai} {wO : sOut}  {x1 : Int32} {x2 : Int32} {uF0 : Int32} {uF1 : xF64} {uF2 : xF64} {uF3 : xF64} {uF4 : xF64} {uF5 : Int32} {uF6 : Int32} {uF7 : Int32} {uF8 : xF32} {uF9 : Int32} {uF10 : Int32} {uF11 : Int64} {uF12 : xF32} {uF13 : Int32} {uF14 : Int32} {uF15 : Int32} {uF16 : xF32} {uF17 : xF32} {uF18 : Int32} {rr : Int32} {yF0 : Int32} (hf : f_X8_claimed x1 x2 uF0 uF1 = some (rr, yF0)) : xMi l κ yX8_claimed cX8_claimed 3 (some .int) (xR 2 0 0) [.ref (xAd κ 245), .int x1, .int x2] (wA, wT, wG, wM, (uF0, uF1, uF2, uF3, uF4, uF5, uF6, uF7, uF8, uF9, uF10, uF11, uF12, uF13, uF14, uF15, uF16, uF17, uF18), wO) (wA, wT, wG, wM, (yF0, uF1, uF2, uF3, uF4, uF5, uF6, uF7, uF8, uF9, uF10, uF11, uF12, uF13, uF14, uF15, uF16, uF17, uF18), wO) rr := by
  unfold f_X8_claimed at hf
  refine xMi_of pn_X8 (Nat.le_of_ble_eq_true rfl) ⟨rfl, rfl⟩ ?_
  intro A p e s m args below meth c ls Q hc hw hl K
  have hc : xC κ A p s m args meth c cX8_claimed RX8 3 (some .int) := hc
  have hx := hc.1.1
  have hb := hc.1.2.1
  have hl : lv_has ls 3 [(0, .ref (xAd κ 245)), (1, .int x1), (2, .int x2)] := hl
  refine lv_aload_n hx hb dX8_claimed_0 rfl (lv_at hl 0 rfl) ?_
  refine lv_iconst (v := 0) hx hb dX8_claimed_1 (by decide) ?_
  refine x_put (σ' := (wA, wT, wG, wM, (0, uF1, uF2, uF3, uF4, uF5, uF6, uF7, uF8, uF9, uF10, uF11, uF12, uF13, uF14, uF15, uF16, uF17, uF18), wO)) hc hw co_245 fX8_42 rfl rfl (Nat.le_of_ble_eq_true rfl) so_F_0 dX8_claimed_2 (fun H locs hw => ?_)
  refine lv_aload_n hx hb dX8_claimed_5 rfl (lv_at hl 0 rfl) ?_
  refine lv_iload_n hx hb dX8_claimed_6 rfl (lv_at hl 1 rfl) ?_
  obtain ⟨v1, h2, hf⟩ := xb1_of hf
  refine x_calliV (As := [.int x1]) (rest := []) (σ' := (wA, wT, wG, wM, (0, uF1, uF2, uF3, uF4, uF5, uF6, uF7, uF8, uF9, uF10, uF11, uF12, uF13, uF14, uF15, uF16, uF17, uF18), wO)) hc hw hl.1 (m_X8_isClaim h2) kX8_179 co_245 rfl rfl ⟨rfl, rfl⟩ ⟨Nat.le_of_ble_eq_true rfl, Nat.le_of_ble_eq_true rfl⟩ ⟨Nat.zero_le _, Nat.zero_le _⟩ (Nat.le_of_ble_eq_true rfl) dX8_claimed_7 (fun H locs hw => ?_)
  refine lv_if_ne (tgt := 19) hx hb dX8_claimed_10 (by decide) (fun c3 => ?_) (fun c3 => ?_)
  · have hf := xif_f c3 hf
    refine lv_iload_n hx hb dX8_claimed_19 rfl (lv_at hl 2 rfl) ?_
    refine lv_iconst (v := 0) hx hb dX8_claimed_20 (by decide) ?_
    refine lv_iconst (v := 5) hx hb dX8_claimed_21 (by decide) ?_
    obtain ⟨v4, h5, hf⟩ := xb1_of hf
    refine x_calliS (As := [.int x2, .int 0, .int 5]) (rest := []) (σ' := (wA, wT, wG, wM, (0, uF1, uF2, uF3, uF4, uF5, uF6, uF7, uF8, uF9, uF10, uF11, uF12, uF13, uF14, uF15, uF16, uF17, uF18), wO)) hc hw hl.1 (m_X8_in h5) kX8_63 rfl rfl ⟨rfl, rfl⟩ ⟨Nat.le_of_ble_eq_true rfl, Nat.le_of_ble_eq_true rfl⟩ ⟨Nat.zero_le _, Nat.zero_le _⟩ (Nat.le_of_ble_eq_true rfl) dX8_claimed_22 (fun H locs hw => ?_)
    refine lv_if_eq (tgt := 43) hx hb dX8_claimed_25 (by decide) (fun c6 => ?_) (fun c6 => ?_)
    · have hf := xif_t c6 hf
      refine lv_iload_n hx hb dX8_claimed_43 rfl (lv_at hl 2 rfl) ?_
      refine lv_bipush (v := 6) hx hb dX8_claimed_44 (by decide) ?_
      refine lv_icmp_ne (tgt := 58) hx hb dX8_claimed_46 (by decide) (fun c7 => ?_) (fun c7 => ?_)
      · have hf := xif_f c7 hf
        refine lv_aload_n hx hb dX8_claimed_58 rfl (lv_at hl 0 rfl) ?_
        refine lv_iconst (v := 2) hx hb dX8_claimed_59 (by decide) ?_
        obtain ⟨v8, uF0_9, h10, hf⟩ := xb2_of hf
        refine x_calliV (As := [.int 2]) (rest := []) (σ' := (wA, wT, wG, wM, (uF0_9, uF1, uF2, uF3, uF4, uF5, uF6, uF7, uF8, uF9, uF10, uF11, uF12, uF13, uF14, uF15, uF16, uF17, uF18), wO)) hc hw hl.1 (m_X8_fails h10) kX8_79 co_245 rfl rfl ⟨rfl, rfl⟩ ⟨Nat.le_of_ble_eq_true rfl, Nat.le_of_ble_eq_true rfl⟩ ⟨Nat.zero_le _, Nat.zero_le _⟩ (Nat.le_of_ble_eq_true rfl) dX8_claimed_60 (fun H locs hw => ?_)
        cases hf
        exact K _ _ _ _ dX8_claimed_63 rfl hw
      · have hf := xif_t c7 hf
        refine lv_aload_n hx hb dX8_claimed_49 rfl (lv_at hl 0 rfl) ?_
        refine lv_iload_n hx hb dX8_claimed_50 rfl (lv_at hl 1 rfl) ?_
        obtain ⟨v11, h12, hf⟩ := xb1_of hf
        refine x_calllV (As := [.int x1]) (rest := []) (σ' := (wA, wT, wG, wM, (0, uF1, uF2, uF3, uF4, uF5, uF6, uF7, uF8, uF9, uF10, uF11, uF12, uF13, uF14, uF15, uF16, uF17, uF18), wO)) hc hw hl.1 (m_X8_restOf h12) kX8_185 co_245 rfl rfl ⟨rfl, rfl⟩ ⟨Nat.le_of_ble_eq_true rfl, Nat.le_of_ble_eq_true rfl⟩ ⟨Nat.zero_le _, Nat.zero_le _⟩ (Nat.le_of_ble_eq_true rfl) dX8_claimed_51 (fun H locs hw => ?_)
        refine lv_l2i (v := v11.toInt32) hx hb dX8_claimed_54 rfl ?_
        refine lv_goto (tgt := 63) hx hb dX8_claimed_55 (by decide) ?_
        cases hf
        exact K _ _ _ _ dX8_claimed_63 rfl hw
    · have hf := xif_f c6 hf
      refine lv_aload_n hx hb dX8_claimed_28 rfl (lv_at hl 0 rfl) ?_
      refine x_get (v := .ref (xAd κ 246)) hc hw co_245 fX8_7 rfl dX8_claimed_29 ?_
      refine lv_aload_n hx hb dX8_claimed_32 rfl (lv_at hl 0 rfl) ?_
      refine lv_iload_n hx hb dX8_claimed_33 rfl (lv_at hl 1 rfl) ?_
      refine lv_iload_n hx hb dX8_claimed_34 rfl (lv_at hl 2 rfl) ?_
      obtain ⟨v13, h14, hf⟩ := xb1_of hf
      refine x_calliV (As := [.int x1, .int x2]) (rest := [.ref (xAd κ 246)]) (σ' := (wA, wT, wG, wM, (0, uF1, uF2, uF3, uF4, uF5, uF6, uF7, uF8, uF9, uF10, uF11, uF12, uF13, uF14, uF15, uF16, uF17, uF18), wO)) hc hw hl.1 (m_X8_claimAt h14) kX8_90 co_245 rfl rfl ⟨rfl, rfl⟩ ⟨Nat.le_of_ble_eq_true rfl, Nat.le_of_ble_eq_true rfl⟩ ⟨Nat.zero_le _, Nat.zero_le _⟩ (Nat.le_of_ble_eq_true rfl) dX8_claimed_35 (fun H locs hw => ?_)
      obtain ⟨k15, hf⟩ := xk_of hf
      refine x_lald (n := 304) (f := uF1) hc hw co_246 k15 dX8_claimed_38 ?_
      refine lv_l2i (v := (uF1 v13.toNatClampNeg).toInt32) hx hb dX8_claimed_39 rfl ?_
      refine lv_goto (tgt := 63) hx hb dX8_claimed_40 (by decide) ?_
      cases hf
      exact K _ _ _ _ dX8_claimed_63 rfl hw
  · have hf := xif_t c3 hf
    refine lv_aload_n hx hb dX8_claimed_13 rfl (lv_at hl 0 rfl) ?_
    refine lv_iconst (v := 1) hx hb dX8_claimed_14 (by decide) ?_
    obtain ⟨v16, uF0_17, h18, hf⟩ := xb2_of hf
    refine x_calliV (As := [.int 1]) (rest := []) (σ' := (wA, wT, wG, wM, (uF0_17, uF1, uF2, uF3, uF4, uF5, uF6, uF7, uF8, uF9, uF10, uF11, uF12, uF13, uF14, uF15, uF16, uF17, uF18), wO)) hc hw hl.1 (m_X8_fails h18) kX8_79 co_245 rfl rfl ⟨rfl, rfl⟩ ⟨Nat.le_of_ble_eq_true rfl, Nat.le_of_ble_eq_true rfl⟩ ⟨Nat.zero_le _, Nat.zero_le _⟩ (Nat.le_of_ble_eq_true rfl) dX8_claimed_15 (fun H locs hw => ?_)
    cases hf
    exact K _ _ _ _ dX8_claimed_18 rfl hw
def f_X8_reason (uF0 : Int32) (uF7 : Int32) : Option (Int32 × Int32) :=
  if uF7 = 0 then (xb2 (f_X8_fails 1 0) fun v2 uF0_3 => (some (v2, uF0_3))) else (some (uF7, 0))
set_option maxHeartbeats 4000000 in
set_option maxRecDepth 100000 in
theorem m_X8_reason {l : Launch} {κ : xKt} {wA : Nat → sAcc} {wT : sTxt} {wG : sRng} {wM : sMai} {wO : sOut}  {uF0 : Int32} {uF1 : xF64} {uF2 : xF64} {uF3 : xF64} {uF4 : xF64} {uF5 : Int32} {uF6 : Int32} {uF7 : Int32} {uF8 : xF32} {uF9 : Int32} {uF10 : Int32} {uF11 : Int64} {uF12 : xF32} {uF13 : Int32} {uF14 : Int32} {uF15 : Int32} {uF16 : xF32} {uF17 : xF32} {uF18 : Int32} {rr : Int32} {yF0 : Int32} (hf : f_X8_reason uF0 uF7 = some (rr, yF0)) : xMi l κ yX8_reason cX8_reason 1 (some .int) (xR 1 0 0) [.ref (xAd κ 245)] (wA, wT, wG, wM, (uF0, uF1, uF2, uF3, uF4, uF5, uF6, uF7, uF8, uF9, uF10, uF11, uF12, uF13, uF14, uF15, uF16, uF17, uF18), wO) (wA, wT, wG, wM, (yF0, uF1, uF2, uF3, uF4, uF5, uF6, uF7, uF8, uF9, uF10, uF11, uF12, uF13, uF14, uF15, uF16, uF17, uF18), wO) rr := by
  unfold f_X8_reason at hf
  refine xMi_of pn_X8 (Nat.le_of_ble_eq_true rfl) ⟨rfl, rfl⟩ ?_
  intro A p e s m args below meth c ls Q hc hw hl K
  have hc : xC κ A p s m args meth c cX8_reason RX8 1 (some .int) := hc
  have hx := hc.1.1
  have hb := hc.1.2.1
  have hl : lv_has ls 1 [(0, .ref (xAd κ 245))] := hl
  refine lv_aload_n hx hb dX8_reason_0 rfl (lv_at hl 0 rfl) ?_
  refine lv_iconst (v := 0) hx hb dX8_reason_1 (by decide) ?_
  refine x_put (σ' := (wA, wT, wG, wM, (0, uF1, uF2, uF3, uF4, uF5, uF6, uF7, uF8, uF9, uF10, uF11, uF12, uF13, uF14, uF15, uF16, uF17, uF18), wO)) hc hw co_245 fX8_42 rfl rfl (Nat.le_of_ble_eq_true rfl) so_F_0 dX8_reason_2 (fun H locs hw => ?_)
  refine lv_aload_n hx hb dX8_reason_5 rfl (lv_at hl 0 rfl) ?_
  refine x_get (v := .int uF7) hc hw co_245 fX8_169 rfl dX8_reason_6 ?_
  refine lv_if_ne (tgt := 20) hx hb dX8_reason_9 (by decide) (fun c1 => ?_) (fun c1 => ?_)
  · have hf := xif_f c1 hf
    refine lv_aload_n hx hb dX8_reason_20 rfl (lv_at hl 0 rfl) ?_
    refine x_get (v := .int uF7) hc hw co_245 fX8_169 rfl dX8_reason_21 ?_
    cases hf
    exact K _ _ _ _ dX8_reason_24 rfl hw
  · have hf := xif_t c1 hf
    refine lv_aload_n hx hb dX8_reason_12 rfl (lv_at hl 0 rfl) ?_
    refine lv_iconst (v := 1) hx hb dX8_reason_13 (by decide) ?_
    obtain ⟨v2, uF0_3, h4, hf⟩ := xb2_of hf
    refine x_calliV (As := [.int 1]) (rest := []) (σ' := (wA, wT, wG, wM, (uF0_3, uF1, uF2, uF3, uF4, uF5, uF6, uF7, uF8, uF9, uF10, uF11, uF12, uF13, uF14, uF15, uF16, uF17, uF18), wO)) hc hw hl.1 (m_X8_fails h4) kX8_79 co_245 rfl rfl ⟨rfl, rfl⟩ ⟨Nat.le_of_ble_eq_true rfl, Nat.le_of_ble_eq_true rfl⟩ ⟨Nat.zero_le _, Nat.zero_le _⟩ (Nat.le_of_ble_eq_true rfl) dX8_reason_14 (fun H locs hw => ?_)
    refine lv_goto (tgt := 24) hx hb dX8_reason_17 (by decide) ?_
    cases hf
    exact K _ _ _ _ dX8_reason_24 rfl hw
def f_X8_inDispute (fu : Nat) (uF0 : Int32) (uF1 : xF64) : Option (Int64 × Int32) :=
  xb1 (f_X8_disputed fu uF1) fun v1 => (some (v1, 0))
set_option maxHeartbeats 4000000 in
set_option maxRecDepth 100000 in
theorem m_X8_inDispute {l : Launch} {κ : xKt} {wA : Nat → sAcc} {wT : sTxt} {wG : sRng} {wM : sMai} {wO : sOut} {fu : Nat} {uF0 : Int32} {uF1 : xF64} {uF2 : xF64} {uF3 : xF64} {uF4 : xF64} {uF5 : Int32} {uF6 : Int32} {uF7 : Int32} {uF8 : xF32} {uF9 : Int32} {uF10 : Int32} {uF11 : Int64} {uF12 : xF32} {uF13 : Int32} {uF14 : Int32} {uF15 : Int32} {uF16 : xF32} {uF17 : xF32} {uF18 : Int32} {rr : Int64} {yF0 : Int32} (hf : f_X8_inDispute fu uF0 uF1 = some (rr, yF0)) : xMl l κ yX8_inDispute cX8_inDispute 1 (some .long) (xR 2 0 0) [.ref (xAd κ 245)] (wA, wT, wG, wM, (uF0, uF1, uF2, uF3, uF4, uF5, uF6, uF7, uF8, uF9, uF10, uF11, uF12, uF13, uF14, uF15, uF16, uF17, uF18), wO) (wA, wT, wG, wM, (yF0, uF1, uF2, uF3, uF4, uF5, uF6, uF7, uF8, uF9, uF10, uF11, uF12, uF13, uF14, uF15, uF16, uF17, uF18), wO) rr := by
  unfold f_X8_inDispute at hf
  refine xMl_of pn_X8 (Nat.le_of_ble_eq_true rfl) ⟨rfl, rfl⟩ ?_
  intro A p e s m args below meth c ls Q hc hw hl K
  have hc : xC κ A p s m args meth c cX8_inDispute RX8 1 (some .long) := hc
  have hx := hc.1.1
  have hb := hc.1.2.1
  have hl : lv_has ls 1 [(0, .ref (xAd κ 245))] := hl
  refine lv_aload_n hx hb dX8_inDispute_0 rfl (lv_at hl 0 rfl) ?_
  refine lv_iconst (v := 0) hx hb dX8_inDispute_1 (by decide) ?_
  refine x_put (σ' := (wA, wT, wG, wM, (0, uF1, uF2, uF3, uF4, uF5, uF6, uF7, uF8, uF9, uF10, uF11, uF12, uF13, uF14, uF15, uF16, uF17, uF18), wO)) hc hw co_245 fX8_42 rfl rfl (Nat.le_of_ble_eq_true rfl) so_F_0 dX8_inDispute_2 (fun H locs hw => ?_)
  refine lv_aload_n hx hb dX8_inDispute_5 rfl (lv_at hl 0 rfl) ?_
  obtain ⟨v1, h2, hf⟩ := xb1_of hf
  refine x_calllV (As := []) (rest := []) (σ' := (wA, wT, wG, wM, (0, uF1, uF2, uF3, uF4, uF5, uF6, uF7, uF8, uF9, uF10, uF11, uF12, uF13, uF14, uF15, uF16, uF17, uF18), wO)) hc hw hl.1 (m_X8_disputed h2) kX8_112 co_245 rfl rfl ⟨rfl, rfl⟩ ⟨Nat.le_of_ble_eq_true rfl, Nat.le_of_ble_eq_true rfl⟩ ⟨Nat.zero_le _, Nat.zero_le _⟩ (Nat.le_of_ble_eq_true rfl) dX8_inDispute_6 (fun H locs hw => ?_)
  cases hf
  exact K _ _ _ _ dX8_inDispute_9 hw
def f_X8_fees (fu : Nat) (x1 : Int32) (uF0 : Int32) (uF1 : xF64) : Option (Int64 × Int32) :=
  if x1 = (-1) then (xb1 (f_X8_allFees fu uF1) fun v12 => (some (v12, 0))) else (xb1 (f_X8_in x1 0 3) fun v2 => (if v2 = 0 then (xb2 (f_X8_failsLong 1 0) fun v5 uF0_6 => (some (v5, uF0_6))) else (xb1 (f_X8_disputed fu uF1) fun v8 => (xb1 (f_X8_feeOf v8 x1 uF1) fun v10 => (some (v10, 0))))))
set_option maxHeartbeats 4000000 in
set_option maxRecDepth 100000 in
theorem m_X8_fees {l : Launch} {κ : xKt} {wA : Nat → sAcc} {wT : sTxt} {wG : sRng} {wM : sMai} {wO : sOut} {fu : Nat} {x1 : Int32} {uF0 : Int32} {uF1 : xF64} {uF2 : xF64} {uF3 : xF64} {uF4 : xF64} {uF5 : Int32} {uF6 : Int32} {uF7 : Int32} {uF8 : xF32} {uF9 : Int32} {uF10 : Int32} {uF11 : Int64} {uF12 : xF32} {uF13 : Int32} {uF14 : Int32} {uF15 : Int32} {uF16 : xF32} {uF17 : xF32} {uF18 : Int32} {rr : Int64} {yF0 : Int32} (hf : f_X8_fees fu x1 uF0 uF1 = some (rr, yF0)) : xMl l κ yX8_fees cX8_fees 2 (some .long) (xR 5 0 0) [.ref (xAd κ 245), .int x1] (wA, wT, wG, wM, (uF0, uF1, uF2, uF3, uF4, uF5, uF6, uF7, uF8, uF9, uF10, uF11, uF12, uF13, uF14, uF15, uF16, uF17, uF18), wO) (wA, wT, wG, wM, (yF0, uF1, uF2, uF3, uF4, uF5, uF6, uF7, uF8, uF9, uF10, uF11, uF12, uF13, uF14, uF15, uF16, uF17, uF18), wO) rr := by
  unfold f_X8_fees at hf
  refine xMl_of pn_X8 (Nat.le_of_ble_eq_true rfl) ⟨rfl, rfl⟩ ?_
  intro A p e s m args below meth c ls Q hc hw hl K
  have hc : xC κ A p s m args meth c cX8_fees RX8 2 (some .long) := hc
  have hx := hc.1.1
  have hb := hc.1.2.1
  have hl : lv_has ls 2 [(0, .ref (xAd κ 245)), (1, .int x1)] := hl
  refine lv_aload_n hx hb dX8_fees_0 rfl (lv_at hl 0 rfl) ?_
  refine lv_iconst (v := 0) hx hb dX8_fees_1 (by decide) ?_
  refine x_put (σ' := (wA, wT, wG, wM, (0, uF1, uF2, uF3, uF4, uF5, uF6, uF7, uF8, uF9, uF10, uF11, uF12, uF13, uF14, uF15, uF16, uF17, uF18), wO)) hc hw co_245 fX8_42 rfl rfl (Nat.le_of_ble_eq_true rfl) so_F_0 dX8_fees_2 (fun H locs hw => ?_)
  refine lv_iload_n hx hb dX8_fees_5 rfl (lv_at hl 1 rfl) ?_
  refine lv_iconst (v := (-1)) hx hb dX8_fees_6 (by decide) ?_
  refine lv_icmp_ne (tgt := 17) hx hb dX8_fees_7 (by decide) (fun c1 => ?_) (fun c1 => ?_)
  · have hf := xif_f c1 hf
    refine lv_iload_n hx hb dX8_fees_17 rfl (lv_at hl 1 rfl) ?_
    refine lv_iconst (v := 0) hx hb dX8_fees_18 (by decide) ?_
    refine lv_iconst (v := 3) hx hb dX8_fees_19 (by decide) ?_
    obtain ⟨v2, h3, hf⟩ := xb1_of hf
    refine x_calliS (As := [.int x1, .int 0, .int 3]) (rest := []) (σ' := (wA, wT, wG, wM, (0, uF1, uF2, uF3, uF4, uF5, uF6, uF7, uF8, uF9, uF10, uF11, uF12, uF13, uF14, uF15, uF16, uF17, uF18), wO)) hc hw hl.1 (m_X8_in h3) kX8_63 rfl rfl ⟨rfl, rfl⟩ ⟨Nat.le_of_ble_eq_true rfl, Nat.le_of_ble_eq_true rfl⟩ ⟨Nat.zero_le _, Nat.zero_le _⟩ (Nat.le_of_ble_eq_true rfl) dX8_fees_20 (fun H locs hw => ?_)
    refine lv_if_eq (tgt := 38) hx hb dX8_fees_23 (by decide) (fun c4 => ?_) (fun c4 => ?_)
    · have hf := xif_t c4 hf
      refine lv_aload_n hx hb dX8_fees_38 rfl (lv_at hl 0 rfl) ?_
      refine lv_iconst (v := 1) hx hb dX8_fees_39 (by decide) ?_
      obtain ⟨v5, uF0_6, h7, hf⟩ := xb2_of hf
      refine x_calllV (As := [.int 1]) (rest := []) (σ' := (wA, wT, wG, wM, (uF0_6, uF1, uF2, uF3, uF4, uF5, uF6, uF7, uF8, uF9, uF10, uF11, uF12, uF13, uF14, uF15, uF16, uF17, uF18), wO)) hc hw hl.1 (m_X8_failsLong h7) kX8_153 co_245 rfl rfl ⟨rfl, rfl⟩ ⟨Nat.le_of_ble_eq_true rfl, Nat.le_of_ble_eq_true rfl⟩ ⟨Nat.zero_le _, Nat.zero_le _⟩ (Nat.le_of_ble_eq_true rfl) dX8_fees_40 (fun H locs hw => ?_)
      cases hf
      exact K _ _ _ _ dX8_fees_43 hw
    · have hf := xif_f c4 hf
      refine lv_aload_n hx hb dX8_fees_26 rfl (lv_at hl 0 rfl) ?_
      refine lv_aload_n hx hb dX8_fees_27 rfl (lv_at hl 0 rfl) ?_
      obtain ⟨v8, h9, hf⟩ := xb1_of hf
      refine x_calllV (As := []) (rest := [.ref (xAd κ 245)]) (σ' := (wA, wT, wG, wM, (0, uF1, uF2, uF3, uF4, uF5, uF6, uF7, uF8, uF9, uF10, uF11, uF12, uF13, uF14, uF15, uF16, uF17, uF18), wO)) hc hw hl.1 (m_X8_disputed h9) kX8_112 co_245 rfl rfl ⟨rfl, rfl⟩ ⟨Nat.le_of_ble_eq_true rfl, Nat.le_of_ble_eq_true rfl⟩ ⟨Nat.zero_le _, Nat.zero_le _⟩ (Nat.le_of_ble_eq_true rfl) dX8_fees_28 (fun H locs hw => ?_)
      refine lv_iload_n hx hb dX8_fees_31 rfl (lv_at hl 1 rfl) ?_
      obtain ⟨v10, h11, hf⟩ := xb1_of hf
      refine x_calllV (As := [.long v8, .int x1]) (rest := []) (σ' := (wA, wT, wG, wM, (0, uF1, uF2, uF3, uF4, uF5, uF6, uF7, uF8, uF9, uF10, uF11, uF12, uF13, uF14, uF15, uF16, uF17, uF18), wO)) hc hw hl.1 (m_X8_feeOf h11) kX8_109 co_245 rfl rfl ⟨rfl, rfl⟩ ⟨Nat.le_of_ble_eq_true rfl, Nat.le_of_ble_eq_true rfl⟩ ⟨Nat.zero_le _, Nat.zero_le _⟩ (Nat.le_of_ble_eq_true rfl) dX8_fees_32 (fun H locs hw => ?_)
      refine lv_goto (tgt := 43) hx hb dX8_fees_35 (by decide) ?_
      cases hf
      exact K _ _ _ _ dX8_fees_43 hw
  · have hf := xif_t c1 hf
    refine lv_aload_n hx hb dX8_fees_10 rfl (lv_at hl 0 rfl) ?_
    obtain ⟨v12, h13, hf⟩ := xb1_of hf
    refine x_calllV (As := []) (rest := []) (σ' := (wA, wT, wG, wM, (0, uF1, uF2, uF3, uF4, uF5, uF6, uF7, uF8, uF9, uF10, uF11, uF12, uF13, uF14, uF15, uF16, uF17, uF18), wO)) hc hw hl.1 (m_X8_allFees h13) kX8_122 co_245 rfl rfl ⟨rfl, rfl⟩ ⟨Nat.le_of_ble_eq_true rfl, Nat.le_of_ble_eq_true rfl⟩ ⟨Nat.zero_le _, Nat.zero_le _⟩ (Nat.le_of_ble_eq_true rfl) dX8_fees_11 (fun H locs hw => ?_)
    refine lv_goto (tgt := 43) hx hb dX8_fees_14 (by decide) ?_
    cases hf
    exact K _ _ _ _ dX8_fees_43 hw
def f_X8_wouldBe (x1 : Int32) (uF0 : Int32) (uF1 : xF64) : Option (Int64 × Int32) :=
  xb1 (f_X8_in x1 1 1200000000) fun v1 => (if v1 = 0 then (xb2 (f_X8_failsLong 1 0) fun v4 uF0_5 => (some (v4, uF0_5))) else (xb1 (f_X8_tiersOf x1.toInt64 uF1) fun v7 => (some ((v7 + 5000), 0))))
set_option maxHeartbeats 4000000 in
set_option maxRecDepth 100000 in
theorem m_X8_wouldBe {l : Launch} {κ : xKt} {wA : Nat → sAcc} {wT : sTxt} {wG : sRng} {wM : sMai} {wO : sOut}  {x1 : Int32} {uF0 : Int32} {uF1 : xF64} {uF2 : xF64} {uF3 : xF64} {uF4 : xF64} {uF5 : Int32} {uF6 : Int32} {uF7 : Int32} {uF8 : xF32} {uF9 : Int32} {uF10 : Int32} {uF11 : Int64} {uF12 : xF32} {uF13 : Int32} {uF14 : Int32} {uF15 : Int32} {uF16 : xF32} {uF17 : xF32} {uF18 : Int32} {rr : Int64} {yF0 : Int32} (hf : f_X8_wouldBe x1 uF0 uF1 = some (rr, yF0)) : xMl l κ yX8_wouldBe cX8_wouldBe 2 (some .long) (xR 4 0 0) [.ref (xAd κ 245), .int x1] (wA, wT, wG, wM, (uF0, uF1, uF2, uF3, uF4, uF5, uF6, uF7, uF8, uF9, uF10, uF11, uF12, uF13, uF14, uF15, uF16, uF17, uF18), wO) (wA, wT, wG, wM, (yF0, uF1, uF2, uF3, uF4, uF5, uF6, uF7, uF8, uF9, uF10, uF11, uF12, uF13, uF14, uF15, uF16, uF17, uF18), wO) rr := by
  unfold f_X8_wouldBe at hf
  refine xMl_of pn_X8 (Nat.le_of_ble_eq_true rfl) ⟨rfl, rfl⟩ ?_
  intro A p e s m args below meth c ls Q hc hw hl K
  have hc : xC κ A p s m args meth c cX8_wouldBe RX8 2 (some .long) := hc
  have hx := hc.1.1
  have hb := hc.1.2.1
  have hl : lv_has ls 2 [(0, .ref (xAd κ 245)), (1, .int x1)] := hl
  refine lv_aload_n hx hb dX8_wouldBe_0 rfl (lv_at hl 0 rfl) ?_
  refine lv_iconst (v := 0) hx hb dX8_wouldBe_1 (by decide) ?_
  refine x_put (σ' := (wA, wT, wG, wM, (0, uF1, uF2, uF3, uF4, uF5, uF6, uF7, uF8, uF9, uF10, uF11, uF12, uF13, uF14, uF15, uF16, uF17, uF18), wO)) hc hw co_245 fX8_42 rfl rfl (Nat.le_of_ble_eq_true rfl) so_F_0 dX8_wouldBe_2 (fun H locs hw => ?_)
  refine lv_iload_n hx hb dX8_wouldBe_5 rfl (lv_at hl 1 rfl) ?_
  refine lv_iconst (v := 1) hx hb dX8_wouldBe_6 (by decide) ?_
  refine x_ldc hc w_constant_RX8_220_1200000000 dX8_wouldBe_7 ?_
  obtain ⟨v1, h2, hf⟩ := xb1_of hf
  refine x_calliS (As := [.int x1, .int 1, .int 1200000000]) (rest := []) (σ' := (wA, wT, wG, wM, (0, uF1, uF2, uF3, uF4, uF5, uF6, uF7, uF8, uF9, uF10, uF11, uF12, uF13, uF14, uF15, uF16, uF17, uF18), wO)) hc hw hl.1 (m_X8_in h2) kX8_63 rfl rfl ⟨rfl, rfl⟩ ⟨Nat.le_of_ble_eq_true rfl, Nat.le_of_ble_eq_true rfl⟩ ⟨Nat.zero_le _, Nat.zero_le _⟩ (Nat.le_of_ble_eq_true rfl) dX8_wouldBe_9 (fun H locs hw => ?_)
  refine lv_if_eq (tgt := 28) hx hb dX8_wouldBe_12 (by decide) (fun c3 => ?_) (fun c3 => ?_)
  · have hf := xif_t c3 hf
    refine lv_aload_n hx hb dX8_wouldBe_28 rfl (lv_at hl 0 rfl) ?_
    refine lv_iconst (v := 1) hx hb dX8_wouldBe_29 (by decide) ?_
    obtain ⟨v4, uF0_5, h6, hf⟩ := xb2_of hf
    refine x_calllV (As := [.int 1]) (rest := []) (σ' := (wA, wT, wG, wM, (uF0_5, uF1, uF2, uF3, uF4, uF5, uF6, uF7, uF8, uF9, uF10, uF11, uF12, uF13, uF14, uF15, uF16, uF17, uF18), wO)) hc hw hl.1 (m_X8_failsLong h6) kX8_153 co_245 rfl rfl ⟨rfl, rfl⟩ ⟨Nat.le_of_ble_eq_true rfl, Nat.le_of_ble_eq_true rfl⟩ ⟨Nat.zero_le _, Nat.zero_le _⟩ (Nat.le_of_ble_eq_true rfl) dX8_wouldBe_30 (fun H locs hw => ?_)
    cases hf
    exact K _ _ _ _ dX8_wouldBe_33 hw
  · have hf := xif_f c3 hf
    refine lv_aload_n hx hb dX8_wouldBe_15 rfl (lv_at hl 0 rfl) ?_
    refine lv_iload_n hx hb dX8_wouldBe_16 rfl (lv_at hl 1 rfl) ?_
    refine lv_i2l (v := x1.toInt64) hx hb dX8_wouldBe_17 rfl ?_
    obtain ⟨v7, h8, hf⟩ := xb1_of hf
    refine x_calllV (As := [.long x1.toInt64]) (rest := []) (σ' := (wA, wT, wG, wM, (0, uF1, uF2, uF3, uF4, uF5, uF6, uF7, uF8, uF9, uF10, uF11, uF12, uF13, uF14, uF15, uF16, uF17, uF18), wO)) hc hw hl.1 (m_X8_tiersOf h8) kX8_116 co_245 rfl rfl ⟨rfl, rfl⟩ ⟨Nat.le_of_ble_eq_true rfl, Nat.le_of_ble_eq_true rfl⟩ ⟨Nat.zero_le _, Nat.zero_le _⟩ (Nat.le_of_ble_eq_true rfl) dX8_wouldBe_18 (fun H locs hw => ?_)
    refine x_ldc2 hc w_constantLong_RX8_120_5000 dX8_wouldBe_21 ?_
    refine lv_ladd hx hb dX8_wouldBe_24 ?_
    refine lv_goto (tgt := 33) hx hb dX8_wouldBe_25 (by decide) ?_
    cases hf
    exact K _ _ _ _ dX8_wouldBe_33 hw
def f_X8_partiesOf_4 (fu : Nat) (uF1 : xF64) : Nat → (Int32) → (Int32) → (Int32) → Option Int32
  | 0, _, _, _ => none
  | n + 1, x1, x2, x3 => xb1 (f_X8_parties uF1) fun v1 => (if v1 ≤ x3 then (some x2) else (xk (xin (14 + x3) 304) (if (uF1 (14 + x3).toNatClampNeg) = x1.toInt64 then (f_X8_partiesOf_4 fu uF1 n x1 (x2 + 1) (x3 + 1)) else (f_X8_partiesOf_4 fu uF1 n x1 (x2 + 0) (x3 + 1)))))
def f_X8_partiesOf (fu : Nat) (x1 : Int32) (uF1 : xF64) : Option Int32 :=
  f_X8_partiesOf_4 fu uF1 fu x1 0 0
set_option maxHeartbeats 4000000 in
set_option maxRecDepth 100000 in
theorem l_X8_partiesOf_4 {l : Launch} {κ : xKt} {wA : Nat → sAcc} {wT : sTxt} {wG : sRng} {wM : sMai} {wO : sOut} {fu : Nat} {uF0 : Int32} {uF1 : xF64} {uF2 : xF64} {uF3 : xF64} {uF4 : xF64} {uF5 : Int32} {uF6 : Int32} {uF7 : Int32} {uF8 : xF32} {uF9 : Int32} {uF10 : Int32} {uF11 : Int64} {uF12 : xF32} {uF13 : Int32} {uF14 : Int32} {uF15 : Int32} {uF16 : xF32} {uF17 : xF32} {uF18 : Int32} {A : Nat → Prop} {p : Program} {e : Env} {s : State} {m : MethodId} {args : Array Value} {below : List Frame} {meth : Method} {c : Code} {Q : State → Prop} {rr : Int32}
    (hc : xC κ A p s m args meth c cX8_partiesOf RX8 4 (some .int))
    (K : ∀ (pc : Nat) (ls : Array Slot) (H : Heap) (locs : List Loc), decode cX8_partiesOf pc = .ok (.ireturn, 1) → narrow .int (.int rr) = .int rr → xW κ A s (wA, wT, wG, wM, (uF0, uF1, uF2, uF3, uF4, uF5, uF6, uF7, uF8, uF9, uF10, uF11, uF12, uF13, uF14, uF15, uF16, uF17, uF18), wO) H locs → W p l e (xR 1 0 0) s m args below meth c H locs 0 0 Q (F0 m pc ls [.int rr])) :
    ∀ (n : Nat) (x1 : Int32) (x2 : Int32) (x3 : Int32) (H : Heap) (locs : List Loc) (ls : Array Slot), f_X8_partiesOf_4 fu uF1 n x1 x2 x3 = some rr → xW κ A s (wA, wT, wG, wM, (uF0, uF1, uF2, uF3, uF4, uF5, uF6, uF7, uF8, uF9, uF10, uF11, uF12, uF13, uF14, uF15, uF16, uF17, uF18), wO) H locs → lv_has ls 4 [(0, .ref (xAd κ 245)), (1, .int x1), (2, .int x2), (3, .int x3)] → W p l e (xR 1 0 0) s m args below meth c H locs 0 0 Q (F0 m 4 ls []) := by
  have hx := hc.1.1
  have hb := hc.1.2.1
  intro n
  induction n with
  | zero =>
    intro x1 x2 x3 H locs ls hf
    rw [f_X8_partiesOf_4] at hf
    cases hf
  | succ n hi =>
    intro x1 x2 x3 H locs ls hf hw hl
    rw [f_X8_partiesOf_4] at hf
    refine lv_iload_n hx hb dX8_partiesOf_4 rfl (lv_at hl 3 rfl) ?_
    refine lv_aload_n hx hb dX8_partiesOf_5 rfl (lv_at hl 0 rfl) ?_
    obtain ⟨v1, h2, hf⟩ := xb1_of hf
    refine x_calliV (As := []) (rest := [.int x3]) (σ' := (wA, wT, wG, wM, (uF0, uF1, uF2, uF3, uF4, uF5, uF6, uF7, uF8, uF9, uF10, uF11, uF12, uF13, uF14, uF15, uF16, uF17, uF18), wO)) hc hw hl.1 (m_X8_parties h2) kX8_59 co_245 rfl rfl ⟨rfl, rfl⟩ ⟨Nat.le_of_ble_eq_true rfl, Nat.le_of_ble_eq_true rfl⟩ ⟨Nat.zero_le _, Nat.zero_le _⟩ (Nat.le_of_ble_eq_true rfl) dX8_partiesOf_6 (fun H locs hw => ?_)
    refine lv_icmp_ge (tgt := 41) hx hb dX8_partiesOf_9 (by decide) (fun c3 => ?_) (fun c3 => ?_)
    · have hf := xif_t c3 hf
      refine lv_iload_n hx hb dX8_partiesOf_41 rfl (lv_at hl 2 rfl) ?_
      cases hf
      exact K _ _ _ _ dX8_partiesOf_42 rfl hw
    · have hf := xif_f c3 hf
      refine lv_iload_n hx hb dX8_partiesOf_12 rfl (lv_at hl 2 rfl) ?_
      refine lv_aload_n hx hb dX8_partiesOf_13 rfl (lv_at hl 0 rfl) ?_
      refine x_get (v := .ref (xAd κ 246)) hc hw co_245 fX8_7 rfl dX8_partiesOf_14 ?_
      refine lv_bipush (v := 14) hx hb dX8_partiesOf_17 (by decide) ?_
      refine lv_iload_n hx hb dX8_partiesOf_19 rfl (lv_at hl 3 rfl) ?_
      refine lv_iadd hx hb dX8_partiesOf_20 ?_
      obtain ⟨k4, hf⟩ := xk_of hf
      refine x_lald (n := 304) (f := uF1) hc hw co_246 k4 dX8_partiesOf_21 ?_
      refine lv_iload_n hx hb dX8_partiesOf_22 rfl (lv_at hl 1 rfl) ?_
      refine lv_i2l (v := x1.toInt64) hx hb dX8_partiesOf_23 rfl ?_
      refine x_lcmp_ne (tgt := 32) hx hb dX8_partiesOf_24 dX8_partiesOf_25 (by decide) (fun c5 => ?_) (fun c5 => ?_)
      · have hf := xif_f c5 hf
        refine lv_iconst (v := 0) hx hb dX8_partiesOf_32 (by decide) ?_
        refine lv_iadd hx hb dX8_partiesOf_33 ?_
        refine lv_istore_n (lv' := [(2, .int (x2 + 0)), (0, .ref (xAd κ 245)), (1, .int x1), (3, .int x3)]) hx hb dX8_partiesOf_34 rfl hl (by decide) rfl (fun ls hl => ?_)
        refine lv_iinc (v := (x3 + 1)) (lv' := [(3, .int (x3 + 1)), (2, .int (x2 + 0)), (0, .ref (xAd κ 245)), (1, .int x1)]) hx hb dX8_partiesOf_35 hl (k := 3) rfl rfl (by decide) rfl (fun ls hl => ?_)
        refine lv_goto (tgt := 4) hx hb dX8_partiesOf_38 (by decide) ?_
        exact hi _ _ _ _ _ _ hf hw (lv_sub hl [2, 3, 1, 0] rfl)
      · have hf := xif_t c5 hf
        refine lv_iconst (v := 1) hx hb dX8_partiesOf_28 (by decide) ?_
        refine lv_goto (tgt := 33) hx hb dX8_partiesOf_29 (by decide) ?_
        refine lv_iadd hx hb dX8_partiesOf_33 ?_
        refine lv_istore_n (lv' := [(2, .int (x2 + 1)), (0, .ref (xAd κ 245)), (1, .int x1), (3, .int x3)]) hx hb dX8_partiesOf_34 rfl hl (by decide) rfl (fun ls hl => ?_)
        refine lv_iinc (v := (x3 + 1)) (lv' := [(3, .int (x3 + 1)), (2, .int (x2 + 1)), (0, .ref (xAd κ 245)), (1, .int x1)]) hx hb dX8_partiesOf_35 hl (k := 3) rfl rfl (by decide) rfl (fun ls hl => ?_)
        refine lv_goto (tgt := 4) hx hb dX8_partiesOf_38 (by decide) ?_
        exact hi _ _ _ _ _ _ hf hw (lv_sub hl [2, 3, 1, 0] rfl)
set_option maxHeartbeats 4000000 in
set_option maxRecDepth 100000 in
theorem m_X8_partiesOf {l : Launch} {κ : xKt} {wA : Nat → sAcc} {wT : sTxt} {wG : sRng} {wM : sMai} {wO : sOut} {fu : Nat} {x1 : Int32} {uF0 : Int32} {uF1 : xF64} {uF2 : xF64} {uF3 : xF64} {uF4 : xF64} {uF5 : Int32} {uF6 : Int32} {uF7 : Int32} {uF8 : xF32} {uF9 : Int32} {uF10 : Int32} {uF11 : Int64} {uF12 : xF32} {uF13 : Int32} {uF14 : Int32} {uF15 : Int32} {uF16 : xF32} {uF17 : xF32} {uF18 : Int32} {rr : Int32} (hf : f_X8_partiesOf fu x1 uF1 = some rr) : xMi l κ yX8_partiesOf cX8_partiesOf 4 (some .int) (xR 1 0 0) [.ref (xAd κ 245), .int x1] (wA, wT, wG, wM, (uF0, uF1, uF2, uF3, uF4, uF5, uF6, uF7, uF8, uF9, uF10, uF11, uF12, uF13, uF14, uF15, uF16, uF17, uF18), wO) (wA, wT, wG, wM, (uF0, uF1, uF2, uF3, uF4, uF5, uF6, uF7, uF8, uF9, uF10, uF11, uF12, uF13, uF14, uF15, uF16, uF17, uF18), wO) rr := by
  unfold f_X8_partiesOf at hf
  refine xMi_of pn_X8 (Nat.le_of_ble_eq_true rfl) ⟨rfl, rfl⟩ ?_
  intro A p e s m args below meth c ls Q hc hw hl K
  have hc : xC κ A p s m args meth c cX8_partiesOf RX8 4 (some .int) := hc
  have hx := hc.1.1
  have hb := hc.1.2.1
  have hl : lv_has ls 4 [(0, .ref (xAd κ 245)), (1, .int x1)] := hl
  refine lv_iconst (v := 0) hx hb dX8_partiesOf_0 (by decide) ?_
  refine lv_istore_n (lv' := [(2, .int 0), (0, .ref (xAd κ 245)), (1, .int x1)]) hx hb dX8_partiesOf_1 rfl hl (by decide) rfl (fun ls hl => ?_)
  refine lv_iconst (v := 0) hx hb dX8_partiesOf_2 (by decide) ?_
  refine lv_istore_n (lv' := [(3, .int 0), (2, .int 0), (0, .ref (xAd κ 245)), (1, .int x1)]) hx hb dX8_partiesOf_3 rfl hl (by decide) rfl (fun ls hl => ?_)
  exact l_X8_partiesOf_4 hc K fu _ _ _ _ _ _ hf hw (lv_sub hl [2, 3, 1, 0] rfl)
def f_X8_side (fu : Nat) (x1 : Int32) (x2 : Int32) (uF0 : Int32) (uF1 : xF64) : Option (Int64 × Int32) :=
  xb1 (f_X8_in x1 0 1) fun v1 => (if v1 = 0 then (xb2 (f_X8_failsLong 1 0) fun v19 uF0_20 => (some (v19, uF0_20))) else (if x2 = 0 then (xb1 (f_X8_lostBy fu x1 uF1) fun v5 => (some (v5, 0))) else (if x2 = 1 then (xb1 (f_X8_shareOfSide fu x1 uF1) fun v8 => (some (v8, 0))) else (if x2 = 2 then (xb1 (f_X8_partiesOf fu x1 uF1) fun v11 => (some (v11.toInt64, 0))) else (if x2 = 3 then (xb1 (f_X8_weights fu x1 uF1) fun v14 => (some (v14, 0))) else (xb2 (f_X8_failsLong 2 0) fun v16 uF0_17 => (some (v16, uF0_17))))))))
set_option maxHeartbeats 4000000 in
set_option maxRecDepth 100000 in
theorem m_X8_side {l : Launch} {κ : xKt} {wA : Nat → sAcc} {wT : sTxt} {wG : sRng} {wM : sMai} {wO : sOut} {fu : Nat} {x1 : Int32} {x2 : Int32} {uF0 : Int32} {uF1 : xF64} {uF2 : xF64} {uF3 : xF64} {uF4 : xF64} {uF5 : Int32} {uF6 : Int32} {uF7 : Int32} {uF8 : xF32} {uF9 : Int32} {uF10 : Int32} {uF11 : Int64} {uF12 : xF32} {uF13 : Int32} {uF14 : Int32} {uF15 : Int32} {uF16 : xF32} {uF17 : xF32} {uF18 : Int32} {rr : Int64} {yF0 : Int32} (hf : f_X8_side fu x1 x2 uF0 uF1 = some (rr, yF0)) : xMl l κ yX8_side cX8_side 3 (some .long) (xR 6 0 0) [.ref (xAd κ 245), .int x1, .int x2] (wA, wT, wG, wM, (uF0, uF1, uF2, uF3, uF4, uF5, uF6, uF7, uF8, uF9, uF10, uF11, uF12, uF13, uF14, uF15, uF16, uF17, uF18), wO) (wA, wT, wG, wM, (yF0, uF1, uF2, uF3, uF4, uF5, uF6, uF7, uF8, uF9, uF10, uF11, uF12, uF13, uF14, uF15, uF16, uF17, uF18), wO) rr := by
  unfold f_X8_side at hf
  refine xMl_of pn_X8 (Nat.le_of_ble_eq_true rfl) ⟨rfl, rfl⟩ ?_
  intro A p e s m args below meth c ls Q hc hw hl K
  have hc : xC κ A p s m args meth c cX8_side RX8 3 (some .long) := hc
  have hx := hc.1.1
  have hb := hc.1.2.1
  have hl : lv_has ls 3 [(0, .ref (xAd κ 245)), (1, .int x1), (2, .int x2)] := hl
  refine lv_aload_n hx hb dX8_side_0 rfl (lv_at hl 0 rfl) ?_
  refine lv_iconst (v := 0) hx hb dX8_side_1 (by decide) ?_
  refine x_put (σ' := (wA, wT, wG, wM, (0, uF1, uF2, uF3, uF4, uF5, uF6, uF7, uF8, uF9, uF10, uF11, uF12, uF13, uF14, uF15, uF16, uF17, uF18), wO)) hc hw co_245 fX8_42 rfl rfl (Nat.le_of_ble_eq_true rfl) so_F_0 dX8_side_2 (fun H locs hw => ?_)
  refine lv_iload_n hx hb dX8_side_5 rfl (lv_at hl 1 rfl) ?_
  refine lv_iconst (v := 0) hx hb dX8_side_6 (by decide) ?_
  refine lv_iconst (v := 1) hx hb dX8_side_7 (by decide) ?_
  obtain ⟨v1, h2, hf⟩ := xb1_of hf
  refine x_calliS (As := [.int x1, .int 0, .int 1]) (rest := []) (σ' := (wA, wT, wG, wM, (0, uF1, uF2, uF3, uF4, uF5, uF6, uF7, uF8, uF9, uF10, uF11, uF12, uF13, uF14, uF15, uF16, uF17, uF18), wO)) hc hw hl.1 (m_X8_in h2) kX8_63 rfl rfl ⟨rfl, rfl⟩ ⟨Nat.le_of_ble_eq_true rfl, Nat.le_of_ble_eq_true rfl⟩ ⟨Nat.zero_le _, Nat.zero_le _⟩ (Nat.le_of_ble_eq_true rfl) dX8_side_8 (fun H locs hw => ?_)
  refine lv_if_ne (tgt := 20) hx hb dX8_side_11 (by decide) (fun c3 => ?_) (fun c3 => ?_)
  · have hf := xif_f c3 hf
    refine lv_iload_n hx hb dX8_side_20 rfl (lv_at hl 2 rfl) ?_
    by_cases c4 : x2 = 0
    · have hf := xif_t c4 hf
      refine x_tabI (k := 0) (off := 31) (tgt := 52) hx hb dX8_side_21 c4 (by decide) (by decide) (by decide) ?_
      refine lv_aload_n hx hb dX8_side_52 rfl (lv_at hl 0 rfl) ?_
      refine lv_iload_n hx hb dX8_side_53 rfl (lv_at hl 1 rfl) ?_
      obtain ⟨v5, h6, hf⟩ := xb1_of hf
      refine x_calllV (As := [.int x1]) (rest := []) (σ' := (wA, wT, wG, wM, (0, uF1, uF2, uF3, uF4, uF5, uF6, uF7, uF8, uF9, uF10, uF11, uF12, uF13, uF14, uF15, uF16, uF17, uF18), wO)) hc hw hl.1 (m_X8_lostBy h6) kX8_125 co_245 rfl rfl ⟨rfl, rfl⟩ ⟨Nat.le_of_ble_eq_true rfl, Nat.le_of_ble_eq_true rfl⟩ ⟨Nat.zero_le _, Nat.zero_le _⟩ (Nat.le_of_ble_eq_true rfl) dX8_side_54 (fun H locs hw => ?_)
      cases hf
      exact K _ _ _ _ dX8_side_57 hw
    have hf := xif_f c4 hf
    by_cases c7 : x2 = 1
    · have hf := xif_t c7 hf
      refine x_tabI (k := 1) (off := 37) (tgt := 58) hx hb dX8_side_21 c7 (by decide) (by decide) (by decide) ?_
      refine lv_aload_n hx hb dX8_side_58 rfl (lv_at hl 0 rfl) ?_
      refine lv_iload_n hx hb dX8_side_59 rfl (lv_at hl 1 rfl) ?_
      obtain ⟨v8, h9, hf⟩ := xb1_of hf
      refine x_calllV (As := [.int x1]) (rest := []) (σ' := (wA, wT, wG, wM, (0, uF1, uF2, uF3, uF4, uF5, uF6, uF7, uF8, uF9, uF10, uF11, uF12, uF13, uF14, uF15, uF16, uF17, uF18), wO)) hc hw hl.1 (m_X8_shareOfSide h9) kX8_134 co_245 rfl rfl ⟨rfl, rfl⟩ ⟨Nat.le_of_ble_eq_true rfl, Nat.le_of_ble_eq_true rfl⟩ ⟨Nat.zero_le _, Nat.zero_le _⟩ (Nat.le_of_ble_eq_true rfl) dX8_side_60 (fun H locs hw => ?_)
      cases hf
      exact K _ _ _ _ dX8_side_63 hw
    have hf := xif_f c7 hf
    by_cases c10 : x2 = 2
    · have hf := xif_t c10 hf
      refine x_tabI (k := 2) (off := 43) (tgt := 64) hx hb dX8_side_21 c10 (by decide) (by decide) (by decide) ?_
      refine lv_aload_n hx hb dX8_side_64 rfl (lv_at hl 0 rfl) ?_
      refine lv_iload_n hx hb dX8_side_65 rfl (lv_at hl 1 rfl) ?_
      obtain ⟨v11, h12, hf⟩ := xb1_of hf
      refine x_calliV (As := [.int x1]) (rest := []) (σ' := (wA, wT, wG, wM, (0, uF1, uF2, uF3, uF4, uF5, uF6, uF7, uF8, uF9, uF10, uF11, uF12, uF13, uF14, uF15, uF16, uF17, uF18), wO)) hc hw hl.1 (m_X8_partiesOf h12) kX8_221 co_245 rfl rfl ⟨rfl, rfl⟩ ⟨Nat.le_of_ble_eq_true rfl, Nat.le_of_ble_eq_true rfl⟩ ⟨Nat.zero_le _, Nat.zero_le _⟩ (Nat.le_of_ble_eq_true rfl) dX8_side_66 (fun H locs hw => ?_)
      refine lv_i2l (v := v11.toInt64) hx hb dX8_side_69 rfl ?_
      cases hf
      exact K _ _ _ _ dX8_side_70 hw
    have hf := xif_f c10 hf
    by_cases c13 : x2 = 3
    · have hf := xif_t c13 hf
      refine x_tabI (k := 3) (off := 50) (tgt := 71) hx hb dX8_side_21 c13 (by decide) (by decide) (by decide) ?_
      refine lv_aload_n hx hb dX8_side_71 rfl (lv_at hl 0 rfl) ?_
      refine lv_iload_n hx hb dX8_side_72 rfl (lv_at hl 1 rfl) ?_
      obtain ⟨v14, h15, hf⟩ := xb1_of hf
      refine x_calllV (As := [.int x1]) (rest := []) (σ' := (wA, wT, wG, wM, (0, uF1, uF2, uF3, uF4, uF5, uF6, uF7, uF8, uF9, uF10, uF11, uF12, uF13, uF14, uF15, uF16, uF17, uF18), wO)) hc hw hl.1 (m_X8_weights h15) kX8_131 co_245 rfl rfl ⟨rfl, rfl⟩ ⟨Nat.le_of_ble_eq_true rfl, Nat.le_of_ble_eq_true rfl⟩ ⟨Nat.zero_le _, Nat.zero_le _⟩ (Nat.le_of_ble_eq_true rfl) dX8_side_73 (fun H locs hw => ?_)
      cases hf
      exact K _ _ _ _ dX8_side_76 hw
    have hf := xif_f c13 hf
    have c4 := x_neT (z := 0) c4 (by decide)
    have c7 := x_neT (z := 1) c7 (by decide)
    have c10 := x_neT (z := 2) c10 (by decide)
    have c13 := x_neT (z := 3) c13 (by decide)
    refine x_tabD (tgt := 77) hx hb dX8_side_21 (by omega) (by decide) ?_
    refine lv_aload_n hx hb dX8_side_77 rfl (lv_at hl 0 rfl) ?_
    refine lv_iconst (v := 2) hx hb dX8_side_78 (by decide) ?_
    obtain ⟨v16, uF0_17, h18, hf⟩ := xb2_of hf
    refine x_calllV (As := [.int 2]) (rest := []) (σ' := (wA, wT, wG, wM, (uF0_17, uF1, uF2, uF3, uF4, uF5, uF6, uF7, uF8, uF9, uF10, uF11, uF12, uF13, uF14, uF15, uF16, uF17, uF18), wO)) hc hw hl.1 (m_X8_failsLong h18) kX8_153 co_245 rfl rfl ⟨rfl, rfl⟩ ⟨Nat.le_of_ble_eq_true rfl, Nat.le_of_ble_eq_true rfl⟩ ⟨Nat.zero_le _, Nat.zero_le _⟩ (Nat.le_of_ble_eq_true rfl) dX8_side_79 (fun H locs hw => ?_)
    cases hf
    exact K _ _ _ _ dX8_side_82 hw
  · have hf := xif_t c3 hf
    refine lv_aload_n hx hb dX8_side_14 rfl (lv_at hl 0 rfl) ?_
    refine lv_iconst (v := 1) hx hb dX8_side_15 (by decide) ?_
    obtain ⟨v19, uF0_20, h21, hf⟩ := xb2_of hf
    refine x_calllV (As := [.int 1]) (rest := []) (σ' := (wA, wT, wG, wM, (uF0_20, uF1, uF2, uF3, uF4, uF5, uF6, uF7, uF8, uF9, uF10, uF11, uF12, uF13, uF14, uF15, uF16, uF17, uF18), wO)) hc hw hl.1 (m_X8_failsLong h21) kX8_153 co_245 rfl rfl ⟨rfl, rfl⟩ ⟨Nat.le_of_ble_eq_true rfl, Nat.le_of_ble_eq_true rfl⟩ ⟨Nat.zero_le _, Nat.zero_le _⟩ (Nat.le_of_ble_eq_true rfl) dX8_side_16 (fun H locs hw => ?_)
    cases hf
    exact K _ _ _ _ dX8_side_19 hw
