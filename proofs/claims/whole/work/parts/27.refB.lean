def f_X8_call_36 (fu : Nat) : Nat → (Int32) → (Int64) → (Int64) → (Int32) → (Int32) → (xF64) → (xF64) → (xF64) → (Int32) → Option (Int64 × Int32 × xF64 × xF64 × xF64 × Int32)
  | 0, _, _, _, _, _, _, _, _, _ => none
  | n + 1, x1, x2, x4, x6, uF0, uF1, uF3, uF4, uF5 => xb1 (f_X8_parties uF1) fun v6 => (if v6 ≤ x6 then (xb1 (f_X8_notes fu 4 x4 uF1) fun uF1_9 => (xb2 (f_X8_keeps fu uF3 uF4 uF5) fun uF4_11 uF5_12 => (some (x4, uF0, uF1_9, uF3, uF4_11, uF5_12)))) else (xk (xin (14 + x6) 304) (if (uF1 (14 + x6).toNatClampNeg) = 1 then (xb1 (f_X8_split fu x2 x6 uF1) fun v20 => (xk (xin (26 + x6) 304) (xk (xin (26 + x6) 304) (f_X8_call_36 fu n x1 x2 (x4 + v20) (x6 + 1) uF0 (vp_updL uF1 (26 + x6).toNatClampNeg ((uF1 (26 + x6).toNatClampNeg) + v20)) uF3 uF4 uF5)))) else (xb1 (f_X8_split fu (x1.toInt64 - x2) x6 uF1) fun v16 => (xk (xin (26 + x6) 304) (xk (xin (26 + x6) 304) (f_X8_call_36 fu n x1 x2 (x4 + v16) (x6 + 1) uF0 (vp_updL uF1 (26 + x6).toNatClampNeg ((uF1 (26 + x6).toNatClampNeg) + v16)) uF3 uF4 uF5)))))))
def f_X8_call (fu : Nat) (x1 : Int32) (uF0 : Int32) (uF1 : xF64) (uF3 : xF64) (uF4 : xF64) (uF5 : Int32) : Option (Int64 × Int32 × xF64 × xF64 × xF64 × Int32) :=
  xb1 (f_X8_remembers fu uF1 uF3) fun uF3_1 => (xb1 (f_X8_in x1 1 100000000) fun v3 => (if v3 = 0 then (xb2 (f_X8_failsLong 1 0) fun v24 uF0_25 => (some (v24, uF0_25, uF1, uF3_1, uF4, uF5))) else (f_X8_call_36 fu fu x1 (x1 / 2).toInt64 0 0 0 uF1 uF3_1 uF4 uF5)))
set_option maxHeartbeats 4000000 in
set_option maxRecDepth 100000 in
theorem l_X8_call_36 {l : Launch} {κ : xKt} {wA : Nat → sAcc} {wT : sTxt} {wG : sRng} {wM : sMai} {wO : sOut} {fu : Nat} {uF2 : xF64} {uF6 : Int32} {uF7 : Int32} {uF8 : xF32} {uF9 : Int32} {uF10 : Int32} {uF11 : Int64} {uF12 : xF32} {uF13 : Int32} {uF14 : Int32} {uF15 : Int32} {uF16 : xF32} {uF17 : xF32} {uF18 : Int32} {A : Nat → Prop} {p : Program} {e : Env} {s : State} {m : MethodId} {args : Array Value} {below : List Frame} {meth : Method} {c : Code} {Q : State → Prop} {rr : Int64} {yF0 : Int32} {yF1 : xF64} {yF3 : xF64} {yF4 : xF64} {yF5 : Int32}
    (hc : xC κ A p s m args meth c cX8_call RX8 9 (some .long))
    (K : ∀ (pc : Nat) (ls : Array Slot) (H : Heap) (locs : List Loc), decode cX8_call pc = .ok (.lreturn, 1) → xW κ A s (wA, wT, wG, wM, (yF0, yF1, uF2, yF3, yF4, yF5, uF6, uF7, uF8, uF9, uF10, uF11, uF12, uF13, uF14, uF15, uF16, uF17, uF18), wO) H locs → W p l e (xR 3 0 0) s m args below meth c H locs 0 0 Q (F0 m pc ls [.long rr])) :
    ∀ (n : Nat) (x1 : Int32) (x2 : Int64) (x4 : Int64) (x6 : Int32) (uF0 : Int32) (uF1 : xF64) (uF3 : xF64) (uF4 : xF64) (uF5 : Int32) (H : Heap) (locs : List Loc) (ls : Array Slot), f_X8_call_36 fu n x1 x2 x4 x6 uF0 uF1 uF3 uF4 uF5 = some (rr, yF0, yF1, yF3, yF4, yF5) → xW κ A s (wA, wT, wG, wM, (uF0, uF1, uF2, uF3, uF4, uF5, uF6, uF7, uF8, uF9, uF10, uF11, uF12, uF13, uF14, uF15, uF16, uF17, uF18), wO) H locs → lv_has ls 9 [(0, .ref (xAd κ 245)), (1, .int x1), (2, .long x2), (4, .long x4), (6, .int x6)] → W p l e (xR 3 0 0) s m args below meth c H locs 0 0 Q (F0 m 36 ls []) := by
  have hx := hc.1.1
  have hb := hc.1.2.1
  intro n
  induction n with
  | zero =>
    intro x1 x2 x4 x6 uF0 uF1 uF3 uF4 uF5 H locs ls hf
    rw [f_X8_call_36] at hf
    cases hf
  | succ n hi =>
    intro x1 x2 x4 x6 uF0 uF1 uF3 uF4 uF5 H locs ls hf hw hl
    rw [f_X8_call_36] at hf
    refine lv_iload hx hb dX8_call_36 (lv_at hl 4 rfl) ?_
    refine lv_aload_n hx hb dX8_call_38 rfl (lv_at hl 0 rfl) ?_
    obtain ⟨v6, h7, hf⟩ := xb1_of hf
    refine x_calliV (As := []) (rest := [.int x6]) (σ' := (wA, wT, wG, wM, (uF0, uF1, uF2, uF3, uF4, uF5, uF6, uF7, uF8, uF9, uF10, uF11, uF12, uF13, uF14, uF15, uF16, uF17, uF18), wO)) hc hw hl.1 (m_X8_parties h7) kX8_59 co_245 rfl rfl ⟨rfl, rfl⟩ ⟨Nat.le_of_ble_eq_true rfl, Nat.le_of_ble_eq_true rfl⟩ ⟨Nat.zero_le _, Nat.zero_le _⟩ (Nat.le_of_ble_eq_true rfl) dX8_call_39 (fun H locs hw => ?_)
    refine lv_icmp_ge (tgt := 104) hx hb dX8_call_42 (by decide) (fun c8 => ?_) (fun c8 => ?_)
    · have hf := xif_t c8 hf
      refine lv_aload_n hx hb dX8_call_104 rfl (lv_at hl 0 rfl) ?_
      refine lv_iconst (v := 4) hx hb dX8_call_105 (by decide) ?_
      refine lv_lload hx hb dX8_call_106 (lv_at hl 3 rfl) ?_
      obtain ⟨uF1_9, h10, hf⟩ := xb1_of hf
      refine x_callvV (As := [.int 4, .long x4]) (rest := []) (σ' := (wA, wT, wG, wM, (uF0, uF1_9, uF2, uF3, uF4, uF5, uF6, uF7, uF8, uF9, uF10, uF11, uF12, uF13, uF14, uF15, uF16, uF17, uF18), wO)) hc hw hl.1 (m_X8_notes h10) kX8_192 co_245 rfl rfl ⟨rfl, rfl⟩ ⟨Nat.le_of_ble_eq_true rfl, Nat.le_of_ble_eq_true rfl⟩ ⟨Nat.zero_le _, Nat.zero_le _⟩ (Nat.le_of_ble_eq_true rfl) dX8_call_108 (fun H locs hw => ?_)
      refine lv_aload_n hx hb dX8_call_111 rfl (lv_at hl 0 rfl) ?_
      obtain ⟨uF4_11, uF5_12, h13, hf⟩ := xb2_of hf
      refine x_callvV (As := []) (rest := []) (σ' := (wA, wT, wG, wM, (uF0, uF1_9, uF2, uF3, uF4_11, uF5_12, uF6, uF7, uF8, uF9, uF10, uF11, uF12, uF13, uF14, uF15, uF16, uF17, uF18), wO)) hc hw hl.1 (m_X8_keeps h13) kX8_83 co_245 rfl rfl ⟨rfl, rfl⟩ ⟨Nat.le_of_ble_eq_true rfl, Nat.le_of_ble_eq_true rfl⟩ ⟨Nat.zero_le _, Nat.zero_le _⟩ (Nat.le_of_ble_eq_true rfl) dX8_call_112 (fun H locs hw => ?_)
      refine lv_lload hx hb dX8_call_115 (lv_at hl 3 rfl) ?_
      cases hf
      exact K _ _ _ _ dX8_call_117 hw
    · have hf := xif_f c8 hf
      refine lv_aload_n hx hb dX8_call_45 rfl (lv_at hl 0 rfl) ?_
      refine lv_aload_n hx hb dX8_call_46 rfl (lv_at hl 0 rfl) ?_
      refine x_get (v := .ref (xAd κ 246)) hc hw co_245 fX8_7 rfl dX8_call_47 ?_
      refine lv_bipush (v := 14) hx hb dX8_call_50 (by decide) ?_
      refine lv_iload hx hb dX8_call_52 (lv_at hl 4 rfl) ?_
      refine lv_iadd hx hb dX8_call_54 ?_
      obtain ⟨k14, hf⟩ := xk_of hf
      refine x_lald (n := 304) (f := uF1) hc hw co_246 k14 dX8_call_55 ?_
      refine lv_lconst (v := 1) hx hb dX8_call_56 (by decide) ?_
      refine x_lcmp_ne (tgt := 65) hx hb dX8_call_57 dX8_call_58 (by decide) (fun c15 => ?_) (fun c15 => ?_)
      · have hf := xif_f c15 hf
        refine lv_iload_n hx hb dX8_call_65 rfl (lv_at hl 1 rfl) ?_
        refine lv_i2l (v := x1.toInt64) hx hb dX8_call_66 rfl ?_
        refine lv_lload_n hx hb dX8_call_67 rfl (lv_at hl 2 rfl) ?_
        refine lv_lsub hx hb dX8_call_68 ?_
        refine lv_iload hx hb dX8_call_69 (lv_at hl 4 rfl) ?_
        obtain ⟨v16, h17, hf⟩ := xb1_of hf
        refine x_calllV (As := [.long (x1.toInt64 - x2), .int x6]) (rest := []) (σ' := (wA, wT, wG, wM, (uF0, uF1, uF2, uF3, uF4, uF5, uF6, uF7, uF8, uF9, uF10, uF11, uF12, uF13, uF14, uF15, uF16, uF17, uF18), wO)) hc hw hl.1 (m_X8_split h17) kX8_137 co_245 rfl rfl ⟨rfl, rfl⟩ ⟨Nat.le_of_ble_eq_true rfl, Nat.le_of_ble_eq_true rfl⟩ ⟨Nat.zero_le _, Nat.zero_le _⟩ (Nat.le_of_ble_eq_true rfl) dX8_call_71 (fun H locs hw => ?_)
        refine lv_lstore (lv' := [(7, .long v16), (0, .ref (xAd κ 245)), (1, .int x1), (2, .long x2), (4, .long x4), (6, .int x6)]) hx hb dX8_call_74 hl (by decide) rfl (fun ls hl => ?_)
        refine lv_aload_n hx hb dX8_call_76 rfl (lv_at hl 1 rfl) ?_
        refine x_get (v := .ref (xAd κ 246)) hc hw co_245 fX8_7 rfl dX8_call_77 ?_
        refine lv_bipush (v := 26) hx hb dX8_call_80 (by decide) ?_
        refine lv_iload hx hb dX8_call_82 (lv_at hl 5 rfl) ?_
        refine lv_iadd hx hb dX8_call_84 ?_
        refine lv_dup2_11 hx hb dX8_call_85 rfl rfl ?_
        obtain ⟨k18, hf⟩ := xk_of hf
        refine x_lald (n := 304) (f := uF1) hc hw co_246 k18 dX8_call_86 ?_
        refine lv_lload hx hb dX8_call_87 (lv_at hl 0 rfl) ?_
        refine lv_ladd hx hb dX8_call_89 ?_
        obtain ⟨k19, hf⟩ := xk_of hf
        refine x_last (n := 304) (f := uF1) (σ' := (wA, wT, wG, wM, (uF0, (vp_updL uF1 (26 + x6).toNatClampNeg ((uF1 (26 + x6).toNatClampNeg) + v16)), uF2, uF3, uF4, uF5, uF6, uF7, uF8, uF9, uF10, uF11, uF12, uF13, uF14, uF15, uF16, uF17, uF18), wO)) hc hw co_246 k19 so_F_1 dX8_call_90 (fun H locs hw => ?_)
        refine lv_lload hx hb dX8_call_91 (lv_at hl 4 rfl) ?_
        refine lv_lload hx hb dX8_call_93 (lv_at hl 0 rfl) ?_
        refine lv_ladd hx hb dX8_call_95 ?_
        refine lv_lstore (lv' := [(4, .long (x4 + v16)), (7, .long v16), (0, .ref (xAd κ 245)), (1, .int x1), (2, .long x2), (6, .int x6)]) hx hb dX8_call_96 hl (by decide) rfl (fun ls hl => ?_)
        refine lv_iinc (v := (x6 + 1)) (lv' := [(6, .int (x6 + 1)), (4, .long (x4 + v16)), (7, .long v16), (0, .ref (xAd κ 245)), (1, .int x1), (2, .long x2)]) hx hb dX8_call_98 hl (k := 5) rfl rfl (by decide) rfl (fun ls hl => ?_)
        refine lv_goto (tgt := 36) hx hb dX8_call_101 (by decide) ?_
        exact hi _ _ _ _ _ _ _ _ _ _ _ _ hf hw (lv_sub hl [3, 4, 5, 1, 0] rfl)
      · have hf := xif_t c15 hf
        refine lv_lload_n hx hb dX8_call_61 rfl (lv_at hl 2 rfl) ?_
        refine lv_goto (tgt := 69) hx hb dX8_call_62 (by decide) ?_
        refine lv_iload hx hb dX8_call_69 (lv_at hl 4 rfl) ?_
        obtain ⟨v20, h21, hf⟩ := xb1_of hf
        refine x_calllV (As := [.long x2, .int x6]) (rest := []) (σ' := (wA, wT, wG, wM, (uF0, uF1, uF2, uF3, uF4, uF5, uF6, uF7, uF8, uF9, uF10, uF11, uF12, uF13, uF14, uF15, uF16, uF17, uF18), wO)) hc hw hl.1 (m_X8_split h21) kX8_137 co_245 rfl rfl ⟨rfl, rfl⟩ ⟨Nat.le_of_ble_eq_true rfl, Nat.le_of_ble_eq_true rfl⟩ ⟨Nat.zero_le _, Nat.zero_le _⟩ (Nat.le_of_ble_eq_true rfl) dX8_call_71 (fun H locs hw => ?_)
        refine lv_lstore (lv' := [(7, .long v20), (0, .ref (xAd κ 245)), (1, .int x1), (2, .long x2), (4, .long x4), (6, .int x6)]) hx hb dX8_call_74 hl (by decide) rfl (fun ls hl => ?_)
        refine lv_aload_n hx hb dX8_call_76 rfl (lv_at hl 1 rfl) ?_
        refine x_get (v := .ref (xAd κ 246)) hc hw co_245 fX8_7 rfl dX8_call_77 ?_
        refine lv_bipush (v := 26) hx hb dX8_call_80 (by decide) ?_
        refine lv_iload hx hb dX8_call_82 (lv_at hl 5 rfl) ?_
        refine lv_iadd hx hb dX8_call_84 ?_
        refine lv_dup2_11 hx hb dX8_call_85 rfl rfl ?_
        obtain ⟨k22, hf⟩ := xk_of hf
        refine x_lald (n := 304) (f := uF1) hc hw co_246 k22 dX8_call_86 ?_
        refine lv_lload hx hb dX8_call_87 (lv_at hl 0 rfl) ?_
        refine lv_ladd hx hb dX8_call_89 ?_
        obtain ⟨k23, hf⟩ := xk_of hf
        refine x_last (n := 304) (f := uF1) (σ' := (wA, wT, wG, wM, (uF0, (vp_updL uF1 (26 + x6).toNatClampNeg ((uF1 (26 + x6).toNatClampNeg) + v20)), uF2, uF3, uF4, uF5, uF6, uF7, uF8, uF9, uF10, uF11, uF12, uF13, uF14, uF15, uF16, uF17, uF18), wO)) hc hw co_246 k23 so_F_1 dX8_call_90 (fun H locs hw => ?_)
        refine lv_lload hx hb dX8_call_91 (lv_at hl 4 rfl) ?_
        refine lv_lload hx hb dX8_call_93 (lv_at hl 0 rfl) ?_
        refine lv_ladd hx hb dX8_call_95 ?_
        refine lv_lstore (lv' := [(4, .long (x4 + v20)), (7, .long v20), (0, .ref (xAd κ 245)), (1, .int x1), (2, .long x2), (6, .int x6)]) hx hb dX8_call_96 hl (by decide) rfl (fun ls hl => ?_)
        refine lv_iinc (v := (x6 + 1)) (lv' := [(6, .int (x6 + 1)), (4, .long (x4 + v20)), (7, .long v20), (0, .ref (xAd κ 245)), (1, .int x1), (2, .long x2)]) hx hb dX8_call_98 hl (k := 5) rfl rfl (by decide) rfl (fun ls hl => ?_)
        refine lv_goto (tgt := 36) hx hb dX8_call_101 (by decide) ?_
        exact hi _ _ _ _ _ _ _ _ _ _ _ _ hf hw (lv_sub hl [3, 4, 5, 1, 0] rfl)
set_option maxHeartbeats 4000000 in
set_option maxRecDepth 100000 in
theorem m_X8_call {l : Launch} {κ : xKt} {wA : Nat → sAcc} {wT : sTxt} {wG : sRng} {wM : sMai} {wO : sOut} {fu : Nat} {x1 : Int32} {uF0 : Int32} {uF1 : xF64} {uF2 : xF64} {uF3 : xF64} {uF4 : xF64} {uF5 : Int32} {uF6 : Int32} {uF7 : Int32} {uF8 : xF32} {uF9 : Int32} {uF10 : Int32} {uF11 : Int64} {uF12 : xF32} {uF13 : Int32} {uF14 : Int32} {uF15 : Int32} {uF16 : xF32} {uF17 : xF32} {uF18 : Int32} {rr : Int64} {yF0 : Int32} {yF1 : xF64} {yF3 : xF64} {yF4 : xF64} {yF5 : Int32} (hf : f_X8_call fu x1 uF0 uF1 uF3 uF4 uF5 = some (rr, yF0, yF1, yF3, yF4, yF5)) : xMl l κ yX8_call cX8_call 9 (some .long) (xR 3 0 0) [.ref (xAd κ 245), .int x1] (wA, wT, wG, wM, (uF0, uF1, uF2, uF3, uF4, uF5, uF6, uF7, uF8, uF9, uF10, uF11, uF12, uF13, uF14, uF15, uF16, uF17, uF18), wO) (wA, wT, wG, wM, (yF0, yF1, uF2, yF3, yF4, yF5, uF6, uF7, uF8, uF9, uF10, uF11, uF12, uF13, uF14, uF15, uF16, uF17, uF18), wO) rr := by
  unfold f_X8_call at hf
  refine xMl_of pn_X8 (Nat.le_of_ble_eq_true rfl) ⟨rfl, rfl⟩ ?_
  intro A p e s m args below meth c ls Q hc hw hl K
  have hc : xC κ A p s m args meth c cX8_call RX8 9 (some .long) := hc
  have hx := hc.1.1
  have hb := hc.1.2.1
  have hl : lv_has ls 9 [(0, .ref (xAd κ 245)), (1, .int x1)] := hl
  refine lv_aload_n hx hb dX8_call_0 rfl (lv_at hl 0 rfl) ?_
  refine lv_iconst (v := 0) hx hb dX8_call_1 (by decide) ?_
  refine x_put (σ' := (wA, wT, wG, wM, (0, uF1, uF2, uF3, uF4, uF5, uF6, uF7, uF8, uF9, uF10, uF11, uF12, uF13, uF14, uF15, uF16, uF17, uF18), wO)) hc hw co_245 fX8_42 rfl rfl (Nat.le_of_ble_eq_true rfl) so_F_0 dX8_call_2 (fun H locs hw => ?_)
  refine lv_aload_n hx hb dX8_call_5 rfl (lv_at hl 0 rfl) ?_
  obtain ⟨uF3_1, h2, hf⟩ := xb1_of hf
  refine x_callvV (As := []) (rest := []) (σ' := (wA, wT, wG, wM, (0, uF1, uF2, uF3_1, uF4, uF5, uF6, uF7, uF8, uF9, uF10, uF11, uF12, uF13, uF14, uF15, uF16, uF17, uF18), wO)) hc hw hl.1 (m_X8_remembers h2) kX8_76 co_245 rfl rfl ⟨rfl, rfl⟩ ⟨Nat.le_of_ble_eq_true rfl, Nat.le_of_ble_eq_true rfl⟩ ⟨Nat.zero_le _, Nat.zero_le _⟩ (Nat.le_of_ble_eq_true rfl) dX8_call_6 (fun H locs hw => ?_)
  refine lv_iload_n hx hb dX8_call_9 rfl (lv_at hl 1 rfl) ?_
  refine lv_iconst (v := 1) hx hb dX8_call_10 (by decide) ?_
  refine x_ldc hc w_constant_RX8_172_100000000 dX8_call_11 ?_
  obtain ⟨v3, h4, hf⟩ := xb1_of hf
  refine x_calliS (As := [.int x1, .int 1, .int 100000000]) (rest := []) (σ' := (wA, wT, wG, wM, (0, uF1, uF2, uF3_1, uF4, uF5, uF6, uF7, uF8, uF9, uF10, uF11, uF12, uF13, uF14, uF15, uF16, uF17, uF18), wO)) hc hw hl.1 (m_X8_in h4) kX8_63 rfl rfl ⟨rfl, rfl⟩ ⟨Nat.le_of_ble_eq_true rfl, Nat.le_of_ble_eq_true rfl⟩ ⟨Nat.zero_le _, Nat.zero_le _⟩ (Nat.le_of_ble_eq_true rfl) dX8_call_13 (fun H locs hw => ?_)
  refine lv_if_ne (tgt := 25) hx hb dX8_call_16 (by decide) (fun c5 => ?_) (fun c5 => ?_)
  · have hf := xif_f c5 hf
    refine lv_iload_n hx hb dX8_call_25 rfl (lv_at hl 1 rfl) ?_
    refine lv_iconst (v := 2) hx hb dX8_call_26 (by decide) ?_
    refine lv_idiv hx hb dX8_call_27 (by decide) ?_
    refine lv_i2l (v := (x1 / 2).toInt64) hx hb dX8_call_28 rfl ?_
    refine lv_lstore_n (lv' := [(2, .long (x1 / 2).toInt64), (0, .ref (xAd κ 245)), (1, .int x1)]) hx hb dX8_call_29 rfl hl (by decide) rfl (fun ls hl => ?_)
    refine lv_lconst (v := 0) hx hb dX8_call_30 (by decide) ?_
    refine lv_lstore (lv' := [(4, .long 0), (2, .long (x1 / 2).toInt64), (0, .ref (xAd κ 245)), (1, .int x1)]) hx hb dX8_call_31 hl (by decide) rfl (fun ls hl => ?_)
    refine lv_iconst (v := 0) hx hb dX8_call_33 (by decide) ?_
    refine lv_istore (lv' := [(6, .int 0), (4, .long 0), (2, .long (x1 / 2).toInt64), (0, .ref (xAd κ 245)), (1, .int x1)]) hx hb dX8_call_34 hl (by decide) rfl (fun ls hl => ?_)
    exact l_X8_call_36 hc K fu _ _ _ _ _ _ _ _ _ _ _ _ hf hw (lv_sub hl [3, 4, 2, 1, 0] rfl)
  · have hf := xif_t c5 hf
    refine lv_aload_n hx hb dX8_call_19 rfl (lv_at hl 0 rfl) ?_
    refine lv_iconst (v := 1) hx hb dX8_call_20 (by decide) ?_
    obtain ⟨v24, uF0_25, h26, hf⟩ := xb2_of hf
    refine x_calllV (As := [.int 1]) (rest := []) (σ' := (wA, wT, wG, wM, (uF0_25, uF1, uF2, uF3_1, uF4, uF5, uF6, uF7, uF8, uF9, uF10, uF11, uF12, uF13, uF14, uF15, uF16, uF17, uF18), wO)) hc hw hl.1 (m_X8_failsLong h26) kX8_153 co_245 rfl rfl ⟨rfl, rfl⟩ ⟨Nat.le_of_ble_eq_true rfl, Nat.le_of_ble_eq_true rfl⟩ ⟨Nat.zero_le _, Nat.zero_le _⟩ (Nat.le_of_ble_eq_true rfl) dX8_call_21 (fun H locs hw => ?_)
    cases hf
    exact K _ _ _ _ dX8_call_24 hw
def f_X8_pay (fu : Nat) (x1 : Int32) (x2 : Int32) (uF0 : Int32) (uF1 : xF64) (uF3 : xF64) (uF4 : xF64) (uF5 : Int32) (uF11 : Int64) : Option (Int64 × Int32 × xF64 × xF64 × xF64 × Int32 × Int64) :=
  xb1 (f_X8_remembers fu uF1 uF3) fun uF3_1 => (xb3 (f_X8_paying fu x1 x2 uF1 uF11) fun v3 uF1_4 uF11_5 => (xb4 (f_X8_ends fu v3 uF0 uF3_1 uF4 uF5 uF11_5) fun v7 uF0_8 uF4_9 uF5_10 => (some (v7, uF0_8, uF1_4, uF3_1, uF4_9, uF5_10, uF11_5))))
set_option maxHeartbeats 4000000 in
set_option maxRecDepth 100000 in
theorem m_X8_pay {l : Launch} {κ : xKt} {wA : Nat → sAcc} {wT : sTxt} {wG : sRng} {wM : sMai} {wO : sOut} {fu : Nat} {x1 : Int32} {x2 : Int32} {uF0 : Int32} {uF1 : xF64} {uF2 : xF64} {uF3 : xF64} {uF4 : xF64} {uF5 : Int32} {uF6 : Int32} {uF7 : Int32} {uF8 : xF32} {uF9 : Int32} {uF10 : Int32} {uF11 : Int64} {uF12 : xF32} {uF13 : Int32} {uF14 : Int32} {uF15 : Int32} {uF16 : xF32} {uF17 : xF32} {uF18 : Int32} {rr : Int64} {yF0 : Int32} {yF1 : xF64} {yF3 : xF64} {yF4 : xF64} {yF5 : Int32} {yF11 : Int64} (hf : f_X8_pay fu x1 x2 uF0 uF1 uF3 uF4 uF5 uF11 = some (rr, yF0, yF1, yF3, yF4, yF5, yF11)) : xMl l κ yX8_pay cX8_pay 3 (some .long) (xR 3 0 0) [.ref (xAd κ 245), .int x1, .int x2] (wA, wT, wG, wM, (uF0, uF1, uF2, uF3, uF4, uF5, uF6, uF7, uF8, uF9, uF10, uF11, uF12, uF13, uF14, uF15, uF16, uF17, uF18), wO) (wA, wT, wG, wM, (yF0, yF1, uF2, yF3, yF4, yF5, uF6, uF7, uF8, uF9, uF10, yF11, uF12, uF13, uF14, uF15, uF16, uF17, uF18), wO) rr := by
  unfold f_X8_pay at hf
  refine xMl_of pn_X8 (Nat.le_of_ble_eq_true rfl) ⟨rfl, rfl⟩ ?_
  intro A p e s m args below meth c ls Q hc hw hl K
  have hc : xC κ A p s m args meth c cX8_pay RX8 3 (some .long) := hc
  have hx := hc.1.1
  have hb := hc.1.2.1
  have hl : lv_has ls 3 [(0, .ref (xAd κ 245)), (1, .int x1), (2, .int x2)] := hl
  refine lv_aload_n hx hb dX8_pay_0 rfl (lv_at hl 0 rfl) ?_
  obtain ⟨uF3_1, h2, hf⟩ := xb1_of hf
  refine x_callvV (As := []) (rest := []) (σ' := (wA, wT, wG, wM, (uF0, uF1, uF2, uF3_1, uF4, uF5, uF6, uF7, uF8, uF9, uF10, uF11, uF12, uF13, uF14, uF15, uF16, uF17, uF18), wO)) hc hw hl.1 (m_X8_remembers h2) kX8_76 co_245 rfl rfl ⟨rfl, rfl⟩ ⟨Nat.le_of_ble_eq_true rfl, Nat.le_of_ble_eq_true rfl⟩ ⟨Nat.zero_le _, Nat.zero_le _⟩ (Nat.le_of_ble_eq_true rfl) dX8_pay_1 (fun H locs hw => ?_)
  refine lv_aload_n hx hb dX8_pay_4 rfl (lv_at hl 0 rfl) ?_
  refine lv_aload_n hx hb dX8_pay_5 rfl (lv_at hl 0 rfl) ?_
  refine lv_iload_n hx hb dX8_pay_6 rfl (lv_at hl 1 rfl) ?_
  refine lv_iload_n hx hb dX8_pay_7 rfl (lv_at hl 2 rfl) ?_
  obtain ⟨v3, uF1_4, uF11_5, h6, hf⟩ := xb3_of hf
  refine x_calliV (As := [.int x1, .int x2]) (rest := [.ref (xAd κ 245)]) (σ' := (wA, wT, wG, wM, (uF0, uF1_4, uF2, uF3_1, uF4, uF5, uF6, uF7, uF8, uF9, uF10, uF11_5, uF12, uF13, uF14, uF15, uF16, uF17, uF18), wO)) hc hw hl.1 (m_X8_paying h6) kX8_224 co_245 rfl rfl ⟨rfl, rfl⟩ ⟨Nat.le_of_ble_eq_true rfl, Nat.le_of_ble_eq_true rfl⟩ ⟨Nat.zero_le _, Nat.zero_le _⟩ (Nat.le_of_ble_eq_true rfl) dX8_pay_8 (fun H locs hw => ?_)
  obtain ⟨v7, uF0_8, uF4_9, uF5_10, h11, hf⟩ := xb4_of hf
  refine x_calllV (As := [.int v3]) (rest := []) (σ' := (wA, wT, wG, wM, (uF0_8, uF1_4, uF2, uF3_1, uF4_9, uF5_10, uF6, uF7, uF8, uF9, uF10, uF11_5, uF12, uF13, uF14, uF15, uF16, uF17, uF18), wO)) hc hw hl.1 (m_X8_ends h11) kX8_214 co_245 rfl rfl ⟨rfl, rfl⟩ ⟨Nat.le_of_ble_eq_true rfl, Nat.le_of_ble_eq_true rfl⟩ ⟨Nat.zero_le _, Nat.zero_le _⟩ (Nat.le_of_ble_eq_true rfl) dX8_pay_11 (fun H locs hw => ?_)
  cases hf
  exact K _ _ _ _ dX8_pay_14 hw
def f_X8_payFor (fu : Nat) (x1 : Int32) (x2 : Int32) (uF0 : Int32) (uF1 : xF64) (uF3 : xF64) (uF4 : xF64) (uF5 : Int32) : Option (Int64 × Int32 × xF64 × xF64 × xF64 × Int32) :=
  xb1 (f_X8_remembers fu uF1 uF3) fun uF3_1 => (xb1 (f_X8_isParty x1 uF1) fun v3 => (if v3 = 0 then (xb2 (f_X8_failsLong 1 0) fun v6 uF0_7 => (some (v6, uF0_7, uF1, uF3_1, uF4, uF5))) else (xb1 (f_X8_isParty x2 uF1) fun v9 => (if v9 = 0 then (xb2 (f_X8_failsLong 1 0) fun v31 uF0_32 => (some (v31, uF0_32, uF1, uF3_1, uF4, uF5))) else (if x1 = x2 then (xb2 (f_X8_failsLong 2 0) fun v28 uF0_29 => (some (v28, uF0_29, uF1, uF3_1, uF4, uF5))) else (xb1 (f_X8_shortBy x2 uF1) fun v13 => (if v13 = 0 then (xb2 (f_X8_failsLong 3 0) fun v25 uF0_26 => (some (v25, uF0_26, uF1, uF3_1, uF4, uF5))) else (xk (xin (32 + x2) 304) (xk (xin (32 + x2) 304) (xb1 (f_X8_owes fu x2 x1 v13 (vp_updL uF1 (32 + x2).toNatClampNeg ((uF1 (32 + x2).toNatClampNeg) + v13))) fun uF1_18 => (xb1 (f_X8_notes fu 5 v13 uF1_18) fun uF1_20 => (xb2 (f_X8_keeps fu uF3_1 uF4 uF5) fun uF4_22 uF5_23 => (some (v13, 0, uF1_20, uF3_1, uF4_22, uF5_23))))))))))))))
set_option maxHeartbeats 4000000 in
set_option maxRecDepth 100000 in
theorem m_X8_payFor {l : Launch} {κ : xKt} {wA : Nat → sAcc} {wT : sTxt} {wG : sRng} {wM : sMai} {wO : sOut} {fu : Nat} {x1 : Int32} {x2 : Int32} {uF0 : Int32} {uF1 : xF64} {uF2 : xF64} {uF3 : xF64} {uF4 : xF64} {uF5 : Int32} {uF6 : Int32} {uF7 : Int32} {uF8 : xF32} {uF9 : Int32} {uF10 : Int32} {uF11 : Int64} {uF12 : xF32} {uF13 : Int32} {uF14 : Int32} {uF15 : Int32} {uF16 : xF32} {uF17 : xF32} {uF18 : Int32} {rr : Int64} {yF0 : Int32} {yF1 : xF64} {yF3 : xF64} {yF4 : xF64} {yF5 : Int32} (hf : f_X8_payFor fu x1 x2 uF0 uF1 uF3 uF4 uF5 = some (rr, yF0, yF1, yF3, yF4, yF5)) : xMl l κ yX8_payFor cX8_payFor 5 (some .long) (xR 3 0 0) [.ref (xAd κ 245), .int x1, .int x2] (wA, wT, wG, wM, (uF0, uF1, uF2, uF3, uF4, uF5, uF6, uF7, uF8, uF9, uF10, uF11, uF12, uF13, uF14, uF15, uF16, uF17, uF18), wO) (wA, wT, wG, wM, (yF0, yF1, uF2, yF3, yF4, yF5, uF6, uF7, uF8, uF9, uF10, uF11, uF12, uF13, uF14, uF15, uF16, uF17, uF18), wO) rr := by
  unfold f_X8_payFor at hf
  refine xMl_of pn_X8 (Nat.le_of_ble_eq_true rfl) ⟨rfl, rfl⟩ ?_
  intro A p e s m args below meth c ls Q hc hw hl K
  have hc : xC κ A p s m args meth c cX8_payFor RX8 5 (some .long) := hc
  have hx := hc.1.1
  have hb := hc.1.2.1
  have hl : lv_has ls 5 [(0, .ref (xAd κ 245)), (1, .int x1), (2, .int x2)] := hl
  refine lv_aload_n hx hb dX8_payFor_0 rfl (lv_at hl 0 rfl) ?_
  refine lv_iconst (v := 0) hx hb dX8_payFor_1 (by decide) ?_
  refine x_put (σ' := (wA, wT, wG, wM, (0, uF1, uF2, uF3, uF4, uF5, uF6, uF7, uF8, uF9, uF10, uF11, uF12, uF13, uF14, uF15, uF16, uF17, uF18), wO)) hc hw co_245 fX8_42 rfl rfl (Nat.le_of_ble_eq_true rfl) so_F_0 dX8_payFor_2 (fun H locs hw => ?_)
  refine lv_aload_n hx hb dX8_payFor_5 rfl (lv_at hl 0 rfl) ?_
  obtain ⟨uF3_1, h2, hf⟩ := xb1_of hf
  refine x_callvV (As := []) (rest := []) (σ' := (wA, wT, wG, wM, (0, uF1, uF2, uF3_1, uF4, uF5, uF6, uF7, uF8, uF9, uF10, uF11, uF12, uF13, uF14, uF15, uF16, uF17, uF18), wO)) hc hw hl.1 (m_X8_remembers h2) kX8_76 co_245 rfl rfl ⟨rfl, rfl⟩ ⟨Nat.le_of_ble_eq_true rfl, Nat.le_of_ble_eq_true rfl⟩ ⟨Nat.zero_le _, Nat.zero_le _⟩ (Nat.le_of_ble_eq_true rfl) dX8_payFor_6 (fun H locs hw => ?_)
  refine lv_aload_n hx hb dX8_payFor_9 rfl (lv_at hl 0 rfl) ?_
  refine lv_iload_n hx hb dX8_payFor_10 rfl (lv_at hl 1 rfl) ?_
  obtain ⟨v3, h4, hf⟩ := xb1_of hf
  refine x_calliV (As := [.int x1]) (rest := []) (σ' := (wA, wT, wG, wM, (0, uF1, uF2, uF3_1, uF4, uF5, uF6, uF7, uF8, uF9, uF10, uF11, uF12, uF13, uF14, uF15, uF16, uF17, uF18), wO)) hc hw hl.1 (m_X8_isParty h4) kX8_149 co_245 rfl rfl ⟨rfl, rfl⟩ ⟨Nat.le_of_ble_eq_true rfl, Nat.le_of_ble_eq_true rfl⟩ ⟨Nat.zero_le _, Nat.zero_le _⟩ (Nat.le_of_ble_eq_true rfl) dX8_payFor_11 (fun H locs hw => ?_)
  refine lv_if_eq (tgt := 25) hx hb dX8_payFor_14 (by decide) (fun c5 => ?_) (fun c5 => ?_)
  · have hf := xif_t c5 hf
    refine lv_aload_n hx hb dX8_payFor_25 rfl (lv_at hl 0 rfl) ?_
    refine lv_iconst (v := 1) hx hb dX8_payFor_26 (by decide) ?_
    obtain ⟨v6, uF0_7, h8, hf⟩ := xb2_of hf
    refine x_calllV (As := [.int 1]) (rest := []) (σ' := (wA, wT, wG, wM, (uF0_7, uF1, uF2, uF3_1, uF4, uF5, uF6, uF7, uF8, uF9, uF10, uF11, uF12, uF13, uF14, uF15, uF16, uF17, uF18), wO)) hc hw hl.1 (m_X8_failsLong h8) kX8_153 co_245 rfl rfl ⟨rfl, rfl⟩ ⟨Nat.le_of_ble_eq_true rfl, Nat.le_of_ble_eq_true rfl⟩ ⟨Nat.zero_le _, Nat.zero_le _⟩ (Nat.le_of_ble_eq_true rfl) dX8_payFor_27 (fun H locs hw => ?_)
    cases hf
    exact K _ _ _ _ dX8_payFor_30 hw
  · have hf := xif_f c5 hf
    refine lv_aload_n hx hb dX8_payFor_17 rfl (lv_at hl 0 rfl) ?_
    refine lv_iload_n hx hb dX8_payFor_18 rfl (lv_at hl 2 rfl) ?_
    obtain ⟨v9, h10, hf⟩ := xb1_of hf
    refine x_calliV (As := [.int x2]) (rest := []) (σ' := (wA, wT, wG, wM, (0, uF1, uF2, uF3_1, uF4, uF5, uF6, uF7, uF8, uF9, uF10, uF11, uF12, uF13, uF14, uF15, uF16, uF17, uF18), wO)) hc hw hl.1 (m_X8_isParty h10) kX8_149 co_245 rfl rfl ⟨rfl, rfl⟩ ⟨Nat.le_of_ble_eq_true rfl, Nat.le_of_ble_eq_true rfl⟩ ⟨Nat.zero_le _, Nat.zero_le _⟩ (Nat.le_of_ble_eq_true rfl) dX8_payFor_19 (fun H locs hw => ?_)
    refine lv_if_ne (tgt := 31) hx hb dX8_payFor_22 (by decide) (fun c11 => ?_) (fun c11 => ?_)
    · have hf := xif_f c11 hf
      refine lv_iload_n hx hb dX8_payFor_31 rfl (lv_at hl 1 rfl) ?_
      refine lv_iload_n hx hb dX8_payFor_32 rfl (lv_at hl 2 rfl) ?_
      refine lv_icmp_ne (tgt := 42) hx hb dX8_payFor_33 (by decide) (fun c12 => ?_) (fun c12 => ?_)
      · have hf := xif_f c12 hf
        refine lv_aload_n hx hb dX8_payFor_42 rfl (lv_at hl 0 rfl) ?_
        refine lv_iload_n hx hb dX8_payFor_43 rfl (lv_at hl 2 rfl) ?_
        obtain ⟨v13, h14, hf⟩ := xb1_of hf
        refine x_calllV (As := [.int x2]) (rest := []) (σ' := (wA, wT, wG, wM, (0, uF1, uF2, uF3_1, uF4, uF5, uF6, uF7, uF8, uF9, uF10, uF11, uF12, uF13, uF14, uF15, uF16, uF17, uF18), wO)) hc hw hl.1 (m_X8_shortBy h14) kX8_162 co_245 rfl rfl ⟨rfl, rfl⟩ ⟨Nat.le_of_ble_eq_true rfl, Nat.le_of_ble_eq_true rfl⟩ ⟨Nat.zero_le _, Nat.zero_le _⟩ (Nat.le_of_ble_eq_true rfl) dX8_payFor_44 (fun H locs hw => ?_)
        refine lv_lstore_n (lv' := [(3, .long v13), (0, .ref (xAd κ 245)), (1, .int x1), (2, .int x2)]) hx hb dX8_payFor_47 rfl hl (by decide) rfl (fun ls hl => ?_)
        refine lv_lload_n hx hb dX8_payFor_48 rfl (lv_at hl 0 rfl) ?_
        refine lv_lconst (v := 0) hx hb dX8_payFor_49 (by decide) ?_
        refine x_lcmp_ne (tgt := 60) hx hb dX8_payFor_50 dX8_payFor_51 (by decide) (fun c15 => ?_) (fun c15 => ?_)
        · have hf := xif_f c15 hf
          refine lv_aload_n hx hb dX8_payFor_60 rfl (lv_at hl 1 rfl) ?_
          refine x_get (v := .ref (xAd κ 246)) hc hw co_245 fX8_7 rfl dX8_payFor_61 ?_
          refine lv_bipush (v := 32) hx hb dX8_payFor_64 (by decide) ?_
          refine lv_iload_n hx hb dX8_payFor_66 rfl (lv_at hl 3 rfl) ?_
          refine lv_iadd hx hb dX8_payFor_67 ?_
          refine lv_dup2_11 hx hb dX8_payFor_68 rfl rfl ?_
          obtain ⟨k16, hf⟩ := xk_of hf
          refine x_lald (n := 304) (f := uF1) hc hw co_246 k16 dX8_payFor_69 ?_
          refine lv_lload_n hx hb dX8_payFor_70 rfl (lv_at hl 0 rfl) ?_
          refine lv_ladd hx hb dX8_payFor_71 ?_
          obtain ⟨k17, hf⟩ := xk_of hf
          refine x_last (n := 304) (f := uF1) (σ' := (wA, wT, wG, wM, (0, (vp_updL uF1 (32 + x2).toNatClampNeg ((uF1 (32 + x2).toNatClampNeg) + v13)), uF2, uF3_1, uF4, uF5, uF6, uF7, uF8, uF9, uF10, uF11, uF12, uF13, uF14, uF15, uF16, uF17, uF18), wO)) hc hw co_246 k17 so_F_1 dX8_payFor_72 (fun H locs hw => ?_)
          refine lv_aload_n hx hb dX8_payFor_73 rfl (lv_at hl 1 rfl) ?_
          refine lv_iload_n hx hb dX8_payFor_74 rfl (lv_at hl 3 rfl) ?_
          refine lv_iload_n hx hb dX8_payFor_75 rfl (lv_at hl 2 rfl) ?_
          refine lv_lload_n hx hb dX8_payFor_76 rfl (lv_at hl 0 rfl) ?_
          obtain ⟨uF1_18, h19, hf⟩ := xb1_of hf
          refine x_callvV (As := [.int x2, .int x1, .long v13]) (rest := []) (σ' := (wA, wT, wG, wM, (0, uF1_18, uF2, uF3_1, uF4, uF5, uF6, uF7, uF8, uF9, uF10, uF11, uF12, uF13, uF14, uF15, uF16, uF17, uF18), wO)) hc hw hl.1 (m_X8_owes h19) kX8_188 co_245 rfl rfl ⟨rfl, rfl⟩ ⟨Nat.le_of_ble_eq_true rfl, Nat.le_of_ble_eq_true rfl⟩ ⟨Nat.zero_le _, Nat.zero_le _⟩ (Nat.le_of_ble_eq_true rfl) dX8_payFor_77 (fun H locs hw => ?_)
          refine lv_aload_n hx hb dX8_payFor_80 rfl (lv_at hl 1 rfl) ?_
          refine lv_iconst (v := 5) hx hb dX8_payFor_81 (by decide) ?_
          refine lv_lload_n hx hb dX8_payFor_82 rfl (lv_at hl 0 rfl) ?_
          obtain ⟨uF1_20, h21, hf⟩ := xb1_of hf
          refine x_callvV (As := [.int 5, .long v13]) (rest := []) (σ' := (wA, wT, wG, wM, (0, uF1_20, uF2, uF3_1, uF4, uF5, uF6, uF7, uF8, uF9, uF10, uF11, uF12, uF13, uF14, uF15, uF16, uF17, uF18), wO)) hc hw hl.1 (m_X8_notes h21) kX8_192 co_245 rfl rfl ⟨rfl, rfl⟩ ⟨Nat.le_of_ble_eq_true rfl, Nat.le_of_ble_eq_true rfl⟩ ⟨Nat.zero_le _, Nat.zero_le _⟩ (Nat.le_of_ble_eq_true rfl) dX8_payFor_83 (fun H locs hw => ?_)
          refine lv_aload_n hx hb dX8_payFor_86 rfl (lv_at hl 1 rfl) ?_
          obtain ⟨uF4_22, uF5_23, h24, hf⟩ := xb2_of hf
          refine x_callvV (As := []) (rest := []) (σ' := (wA, wT, wG, wM, (0, uF1_20, uF2, uF3_1, uF4_22, uF5_23, uF6, uF7, uF8, uF9, uF10, uF11, uF12, uF13, uF14, uF15, uF16, uF17, uF18), wO)) hc hw hl.1 (m_X8_keeps h24) kX8_83 co_245 rfl rfl ⟨rfl, rfl⟩ ⟨Nat.le_of_ble_eq_true rfl, Nat.le_of_ble_eq_true rfl⟩ ⟨Nat.zero_le _, Nat.zero_le _⟩ (Nat.le_of_ble_eq_true rfl) dX8_payFor_87 (fun H locs hw => ?_)
          refine lv_lload_n hx hb dX8_payFor_90 rfl (lv_at hl 0 rfl) ?_
          cases hf
          exact K _ _ _ _ dX8_payFor_91 hw
        · have hf := xif_t c15 hf
          refine lv_aload_n hx hb dX8_payFor_54 rfl (lv_at hl 1 rfl) ?_
          refine lv_iconst (v := 3) hx hb dX8_payFor_55 (by decide) ?_
          obtain ⟨v25, uF0_26, h27, hf⟩ := xb2_of hf
          refine x_calllV (As := [.int 3]) (rest := []) (σ' := (wA, wT, wG, wM, (uF0_26, uF1, uF2, uF3_1, uF4, uF5, uF6, uF7, uF8, uF9, uF10, uF11, uF12, uF13, uF14, uF15, uF16, uF17, uF18), wO)) hc hw hl.1 (m_X8_failsLong h27) kX8_153 co_245 rfl rfl ⟨rfl, rfl⟩ ⟨Nat.le_of_ble_eq_true rfl, Nat.le_of_ble_eq_true rfl⟩ ⟨Nat.zero_le _, Nat.zero_le _⟩ (Nat.le_of_ble_eq_true rfl) dX8_payFor_56 (fun H locs hw => ?_)
          cases hf
          exact K _ _ _ _ dX8_payFor_59 hw
      · have hf := xif_t c12 hf
        refine lv_aload_n hx hb dX8_payFor_36 rfl (lv_at hl 0 rfl) ?_
        refine lv_iconst (v := 2) hx hb dX8_payFor_37 (by decide) ?_
        obtain ⟨v28, uF0_29, h30, hf⟩ := xb2_of hf
        refine x_calllV (As := [.int 2]) (rest := []) (σ' := (wA, wT, wG, wM, (uF0_29, uF1, uF2, uF3_1, uF4, uF5, uF6, uF7, uF8, uF9, uF10, uF11, uF12, uF13, uF14, uF15, uF16, uF17, uF18), wO)) hc hw hl.1 (m_X8_failsLong h30) kX8_153 co_245 rfl rfl ⟨rfl, rfl⟩ ⟨Nat.le_of_ble_eq_true rfl, Nat.le_of_ble_eq_true rfl⟩ ⟨Nat.zero_le _, Nat.zero_le _⟩ (Nat.le_of_ble_eq_true rfl) dX8_payFor_38 (fun H locs hw => ?_)
        cases hf
        exact K _ _ _ _ dX8_payFor_41 hw
    · have hf := xif_t c11 hf
      refine lv_aload_n hx hb dX8_payFor_25 rfl (lv_at hl 0 rfl) ?_
      refine lv_iconst (v := 1) hx hb dX8_payFor_26 (by decide) ?_
      obtain ⟨v31, uF0_32, h33, hf⟩ := xb2_of hf
      refine x_calllV (As := [.int 1]) (rest := []) (σ' := (wA, wT, wG, wM, (uF0_32, uF1, uF2, uF3_1, uF4, uF5, uF6, uF7, uF8, uF9, uF10, uF11, uF12, uF13, uF14, uF15, uF16, uF17, uF18), wO)) hc hw hl.1 (m_X8_failsLong h33) kX8_153 co_245 rfl rfl ⟨rfl, rfl⟩ ⟨Nat.le_of_ble_eq_true rfl, Nat.le_of_ble_eq_true rfl⟩ ⟨Nat.zero_le _, Nat.zero_le _⟩ (Nat.le_of_ble_eq_true rfl) dX8_payFor_27 (fun H locs hw => ?_)
      cases hf
      exact K _ _ _ _ dX8_payFor_30 hw
def f_X8_takeFees_13 (fu : Nat) : Nat → (Int64) → (Int32) → (Int32) → (xF64) → (xF64) → (xF64) → (Int32) → Option (Int64 × Int32 × xF64 × xF64 × xF64 × Int32)
  | 0, _, _, _, _, _, _, _ => none
  | n + 1, x1, x3, uF0, uF1, uF3, uF4, uF5 => xb1 (f_X8_parties uF1) fun v3 => (if v3 ≤ x3 then (xb1 (f_X8_notes fu 6 x1 uF1) fun uF1_6 => (xb2 (f_X8_keeps fu uF3 uF4 uF5) fun uF4_8 uF5_9 => (some (x1, uF0, uF1_6, uF3, uF4_8, uF5_9)))) else (xb1 (f_X8_shareOf fu x3 uF1) fun v11 => (xk (xin (38 + x3) 304) (if (v11 - (uF1 (38 + x3).toNatClampNeg)) ≤ 0 then (xk (xin (38 + x3) 304) (xk (xin (38 + x3) 304) (f_X8_takeFees_13 fu n (x1 + (v11 - (uF1 (38 + x3).toNatClampNeg))) (x3 + 1) uF0 (vp_updL uF1 (38 + x3).toNatClampNeg ((uF1 (38 + x3).toNatClampNeg) + (v11 - (uF1 (38 + x3).toNatClampNeg)))) uF3 uF4 uF5))) else (xb1 (f_X8_held x3 uF1) fun v17 => (xb1 (f_X8_least (v11 - (uF1 (38 + x3).toNatClampNeg)) v17) fun v19 => (xk (xin (38 + x3) 304) (xk (xin (38 + x3) 304) (f_X8_takeFees_13 fu n (x1 + v19) (x3 + 1) uF0 (vp_updL uF1 (38 + x3).toNatClampNeg ((uF1 (38 + x3).toNatClampNeg) + v19)) uF3 uF4 uF5)))))))))
def f_X8_takeFees (fu : Nat) (uF0 : Int32) (uF1 : xF64) (uF3 : xF64) (uF4 : xF64) (uF5 : Int32) : Option (Int64 × Int32 × xF64 × xF64 × xF64 × Int32) :=
  xb1 (f_X8_remembers fu uF1 uF3) fun uF3_1 => (f_X8_takeFees_13 fu fu 0 0 0 uF1 uF3_1 uF4 uF5)
set_option maxHeartbeats 4000000 in
set_option maxRecDepth 100000 in
theorem l_X8_takeFees_13 {l : Launch} {κ : xKt} {wA : Nat → sAcc} {wT : sTxt} {wG : sRng} {wM : sMai} {wO : sOut} {fu : Nat} {uF2 : xF64} {uF6 : Int32} {uF7 : Int32} {uF8 : xF32} {uF9 : Int32} {uF10 : Int32} {uF11 : Int64} {uF12 : xF32} {uF13 : Int32} {uF14 : Int32} {uF15 : Int32} {uF16 : xF32} {uF17 : xF32} {uF18 : Int32} {A : Nat → Prop} {p : Program} {e : Env} {s : State} {m : MethodId} {args : Array Value} {below : List Frame} {meth : Method} {c : Code} {Q : State → Prop} {rr : Int64} {yF0 : Int32} {yF1 : xF64} {yF3 : xF64} {yF4 : xF64} {yF5 : Int32}
    (hc : xC κ A p s m args meth c cX8_takeFees RX8 6 (some .long))
    (K : ∀ (pc : Nat) (ls : Array Slot) (H : Heap) (locs : List Loc), decode cX8_takeFees pc = .ok (.lreturn, 1) → xW κ A s (wA, wT, wG, wM, (yF0, yF1, uF2, yF3, yF4, yF5, uF6, uF7, uF8, uF9, uF10, uF11, uF12, uF13, uF14, uF15, uF16, uF17, uF18), wO) H locs → W p l e (xR 7 0 0) s m args below meth c H locs 0 0 Q (F0 m pc ls [.long rr])) :
    ∀ (n : Nat) (x1 : Int64) (x3 : Int32) (uF0 : Int32) (uF1 : xF64) (uF3 : xF64) (uF4 : xF64) (uF5 : Int32) (H : Heap) (locs : List Loc) (ls : Array Slot), f_X8_takeFees_13 fu n x1 x3 uF0 uF1 uF3 uF4 uF5 = some (rr, yF0, yF1, yF3, yF4, yF5) → xW κ A s (wA, wT, wG, wM, (uF0, uF1, uF2, uF3, uF4, uF5, uF6, uF7, uF8, uF9, uF10, uF11, uF12, uF13, uF14, uF15, uF16, uF17, uF18), wO) H locs → lv_has ls 6 [(0, .ref (xAd κ 245)), (1, .long x1), (3, .int x3)] → W p l e (xR 7 0 0) s m args below meth c H locs 0 0 Q (F0 m 13 ls []) := by
  have hx := hc.1.1
  have hb := hc.1.2.1
  intro n
  induction n with
  | zero =>
    intro x1 x3 uF0 uF1 uF3 uF4 uF5 H locs ls hf
    rw [f_X8_takeFees_13] at hf
    cases hf
  | succ n hi =>
    intro x1 x3 uF0 uF1 uF3 uF4 uF5 H locs ls hf hw hl
    rw [f_X8_takeFees_13] at hf
    refine lv_iload_n hx hb dX8_takeFees_13 rfl (lv_at hl 2 rfl) ?_
    refine lv_aload_n hx hb dX8_takeFees_14 rfl (lv_at hl 0 rfl) ?_
    obtain ⟨v3, h4, hf⟩ := xb1_of hf
    refine x_calliV (As := []) (rest := [.int x3]) (σ' := (wA, wT, wG, wM, (uF0, uF1, uF2, uF3, uF4, uF5, uF6, uF7, uF8, uF9, uF10, uF11, uF12, uF13, uF14, uF15, uF16, uF17, uF18), wO)) hc hw hl.1 (m_X8_parties h4) kX8_59 co_245 rfl rfl ⟨rfl, rfl⟩ ⟨Nat.le_of_ble_eq_true rfl, Nat.le_of_ble_eq_true rfl⟩ ⟨Nat.zero_le _, Nat.zero_le _⟩ (Nat.le_of_ble_eq_true rfl) dX8_takeFees_15 (fun H locs hw => ?_)
    refine lv_icmp_ge (tgt := 87) hx hb dX8_takeFees_18 (by decide) (fun c5 => ?_) (fun c5 => ?_)
    · have hf := xif_t c5 hf
      refine lv_aload_n hx hb dX8_takeFees_87 rfl (lv_at hl 0 rfl) ?_
      refine lv_bipush (v := 6) hx hb dX8_takeFees_88 (by decide) ?_
      refine lv_lload_n hx hb dX8_takeFees_90 rfl (lv_at hl 1 rfl) ?_
      obtain ⟨uF1_6, h7, hf⟩ := xb1_of hf
      refine x_callvV (As := [.int 6, .long x1]) (rest := []) (σ' := (wA, wT, wG, wM, (uF0, uF1_6, uF2, uF3, uF4, uF5, uF6, uF7, uF8, uF9, uF10, uF11, uF12, uF13, uF14, uF15, uF16, uF17, uF18), wO)) hc hw hl.1 (m_X8_notes h7) kX8_192 co_245 rfl rfl ⟨rfl, rfl⟩ ⟨Nat.le_of_ble_eq_true rfl, Nat.le_of_ble_eq_true rfl⟩ ⟨Nat.zero_le _, Nat.zero_le _⟩ (Nat.le_of_ble_eq_true rfl) dX8_takeFees_91 (fun H locs hw => ?_)
      refine lv_aload_n hx hb dX8_takeFees_94 rfl (lv_at hl 0 rfl) ?_
      obtain ⟨uF4_8, uF5_9, h10, hf⟩ := xb2_of hf
      refine x_callvV (As := []) (rest := []) (σ' := (wA, wT, wG, wM, (uF0, uF1_6, uF2, uF3, uF4_8, uF5_9, uF6, uF7, uF8, uF9, uF10, uF11, uF12, uF13, uF14, uF15, uF16, uF17, uF18), wO)) hc hw hl.1 (m_X8_keeps h10) kX8_83 co_245 rfl rfl ⟨rfl, rfl⟩ ⟨Nat.le_of_ble_eq_true rfl, Nat.le_of_ble_eq_true rfl⟩ ⟨Nat.zero_le _, Nat.zero_le _⟩ (Nat.le_of_ble_eq_true rfl) dX8_takeFees_95 (fun H locs hw => ?_)
      refine lv_lload_n hx hb dX8_takeFees_98 rfl (lv_at hl 1 rfl) ?_
      cases hf
      exact K _ _ _ _ dX8_takeFees_99 hw
    · have hf := xif_f c5 hf
      refine lv_aload_n hx hb dX8_takeFees_21 rfl (lv_at hl 0 rfl) ?_
      refine lv_iload_n hx hb dX8_takeFees_22 rfl (lv_at hl 2 rfl) ?_
      obtain ⟨v11, h12, hf⟩ := xb1_of hf
      refine x_calllV (As := [.int x3]) (rest := []) (σ' := (wA, wT, wG, wM, (uF0, uF1, uF2, uF3, uF4, uF5, uF6, uF7, uF8, uF9, uF10, uF11, uF12, uF13, uF14, uF15, uF16, uF17, uF18), wO)) hc hw hl.1 (m_X8_shareOf h12) kX8_159 co_245 rfl rfl ⟨rfl, rfl⟩ ⟨Nat.le_of_ble_eq_true rfl, Nat.le_of_ble_eq_true rfl⟩ ⟨Nat.zero_le _, Nat.zero_le _⟩ (Nat.le_of_ble_eq_true rfl) dX8_takeFees_23 (fun H locs hw => ?_)
      refine lv_aload_n hx hb dX8_takeFees_26 rfl (lv_at hl 0 rfl) ?_
      refine x_get (v := .ref (xAd κ 246)) hc hw co_245 fX8_7 rfl dX8_takeFees_27 ?_
      refine lv_bipush (v := 38) hx hb dX8_takeFees_30 (by decide) ?_
      refine lv_iload_n hx hb dX8_takeFees_32 rfl (lv_at hl 2 rfl) ?_
      refine lv_iadd hx hb dX8_takeFees_33 ?_
      obtain ⟨k13, hf⟩ := xk_of hf
      refine x_lald (n := 304) (f := uF1) hc hw co_246 k13 dX8_takeFees_34 ?_
      refine lv_lsub hx hb dX8_takeFees_35 ?_
      refine lv_lstore (lv' := [(4, .long (v11 - (uF1 (38 + x3).toNatClampNeg))), (0, .ref (xAd κ 245)), (1, .long x1), (3, .int x3)]) hx hb dX8_takeFees_36 hl (by decide) rfl (fun ls hl => ?_)
      refine lv_lload hx hb dX8_takeFees_38 (lv_at hl 0 rfl) ?_
      refine lv_lconst (v := 0) hx hb dX8_takeFees_40 (by decide) ?_
      refine x_lcmp_le (tgt := 58) hx hb dX8_takeFees_41 dX8_takeFees_42 (by decide) (fun c14 => ?_) (fun c14 => ?_)
      · have hf := xif_t c14 hf
        refine lv_lload hx hb dX8_takeFees_58 (lv_at hl 0 rfl) ?_
        refine lv_lstore (lv' := [(4, .long (v11 - (uF1 (38 + x3).toNatClampNeg))), (0, .ref (xAd κ 245)), (1, .long x1), (3, .int x3)]) hx hb dX8_takeFees_60 hl (by decide) rfl (fun ls hl => ?_)
        refine lv_aload_n hx hb dX8_takeFees_62 rfl (lv_at hl 1 rfl) ?_
        refine x_get (v := .ref (xAd κ 246)) hc hw co_245 fX8_7 rfl dX8_takeFees_63 ?_
        refine lv_bipush (v := 38) hx hb dX8_takeFees_66 (by decide) ?_
        refine lv_iload_n hx hb dX8_takeFees_68 rfl (lv_at hl 3 rfl) ?_
        refine lv_iadd hx hb dX8_takeFees_69 ?_
        refine lv_dup2_11 hx hb dX8_takeFees_70 rfl rfl ?_
        obtain ⟨k15, hf⟩ := xk_of hf
        refine x_lald (n := 304) (f := uF1) hc hw co_246 k15 dX8_takeFees_71 ?_
        refine lv_lload hx hb dX8_takeFees_72 (lv_at hl 0 rfl) ?_
        refine lv_ladd hx hb dX8_takeFees_74 ?_
        obtain ⟨k16, hf⟩ := xk_of hf
        refine x_last (n := 304) (f := uF1) (σ' := (wA, wT, wG, wM, (uF0, (vp_updL uF1 (38 + x3).toNatClampNeg ((uF1 (38 + x3).toNatClampNeg) + (v11 - (uF1 (38 + x3).toNatClampNeg)))), uF2, uF3, uF4, uF5, uF6, uF7, uF8, uF9, uF10, uF11, uF12, uF13, uF14, uF15, uF16, uF17, uF18), wO)) hc hw co_246 k16 so_F_1 dX8_takeFees_75 (fun H locs hw => ?_)
        refine lv_lload_n hx hb dX8_takeFees_76 rfl (lv_at hl 2 rfl) ?_
        refine lv_lload hx hb dX8_takeFees_77 (lv_at hl 0 rfl) ?_
        refine lv_ladd hx hb dX8_takeFees_79 ?_
        refine lv_lstore_n (lv' := [(1, .long (x1 + (v11 - (uF1 (38 + x3).toNatClampNeg)))), (4, .long (v11 - (uF1 (38 + x3).toNatClampNeg))), (0, .ref (xAd κ 245)), (3, .int x3)]) hx hb dX8_takeFees_80 rfl hl (by decide) rfl (fun ls hl => ?_)
        refine lv_iinc (v := (x3 + 1)) (lv' := [(3, .int (x3 + 1)), (1, .long (x1 + (v11 - (uF1 (38 + x3).toNatClampNeg)))), (4, .long (v11 - (uF1 (38 + x3).toNatClampNeg))), (0, .ref (xAd κ 245))]) hx hb dX8_takeFees_81 hl (k := 3) rfl rfl (by decide) rfl (fun ls hl => ?_)
        refine lv_goto (tgt := 13) hx hb dX8_takeFees_84 (by decide) ?_
        exact hi _ _ _ _ _ _ _ _ _ _ hf hw (lv_sub hl [3, 1, 0] rfl)
      · have hf := xif_f c14 hf
        refine lv_lload hx hb dX8_takeFees_45 (lv_at hl 0 rfl) ?_
        refine lv_aload_n hx hb dX8_takeFees_47 rfl (lv_at hl 1 rfl) ?_
        refine lv_iload_n hx hb dX8_takeFees_48 rfl (lv_at hl 3 rfl) ?_
        obtain ⟨v17, h18, hf⟩ := xb1_of hf
        refine x_calllV (As := [.int x3]) (rest := [.long (v11 - (uF1 (38 + x3).toNatClampNeg))]) (σ' := (wA, wT, wG, wM, (uF0, uF1, uF2, uF3, uF4, uF5, uF6, uF7, uF8, uF9, uF10, uF11, uF12, uF13, uF14, uF15, uF16, uF17, uF18), wO)) hc hw hl.1 (m_X8_held h18) kX8_156 co_245 rfl rfl ⟨rfl, rfl⟩ ⟨Nat.le_of_ble_eq_true rfl, Nat.le_of_ble_eq_true rfl⟩ ⟨Nat.zero_le _, Nat.zero_le _⟩ (Nat.le_of_ble_eq_true rfl) dX8_takeFees_49 (fun H locs hw => ?_)
        obtain ⟨v19, h20, hf⟩ := xb1_of hf
        refine x_calllS (As := [.long (v11 - (uF1 (38 + x3).toNatClampNeg)), .long v17]) (rest := []) (σ' := (wA, wT, wG, wM, (uF0, uF1, uF2, uF3, uF4, uF5, uF6, uF7, uF8, uF9, uF10, uF11, uF12, uF13, uF14, uF15, uF16, uF17, uF18), wO)) hc hw hl.1 (m_X8_least h20) kX8_99 rfl rfl ⟨rfl, rfl⟩ ⟨Nat.le_of_ble_eq_true rfl, Nat.le_of_ble_eq_true rfl⟩ ⟨Nat.zero_le _, Nat.zero_le _⟩ (Nat.le_of_ble_eq_true rfl) dX8_takeFees_52 (fun H locs hw => ?_)
        refine lv_goto (tgt := 60) hx hb dX8_takeFees_55 (by decide) ?_
        refine lv_lstore (lv' := [(4, .long v19), (0, .ref (xAd κ 245)), (1, .long x1), (3, .int x3)]) hx hb dX8_takeFees_60 hl (by decide) rfl (fun ls hl => ?_)
        refine lv_aload_n hx hb dX8_takeFees_62 rfl (lv_at hl 1 rfl) ?_
        refine x_get (v := .ref (xAd κ 246)) hc hw co_245 fX8_7 rfl dX8_takeFees_63 ?_
        refine lv_bipush (v := 38) hx hb dX8_takeFees_66 (by decide) ?_
        refine lv_iload_n hx hb dX8_takeFees_68 rfl (lv_at hl 3 rfl) ?_
        refine lv_iadd hx hb dX8_takeFees_69 ?_
        refine lv_dup2_11 hx hb dX8_takeFees_70 rfl rfl ?_
        obtain ⟨k21, hf⟩ := xk_of hf
        refine x_lald (n := 304) (f := uF1) hc hw co_246 k21 dX8_takeFees_71 ?_
        refine lv_lload hx hb dX8_takeFees_72 (lv_at hl 0 rfl) ?_
        refine lv_ladd hx hb dX8_takeFees_74 ?_
        obtain ⟨k22, hf⟩ := xk_of hf
        refine x_last (n := 304) (f := uF1) (σ' := (wA, wT, wG, wM, (uF0, (vp_updL uF1 (38 + x3).toNatClampNeg ((uF1 (38 + x3).toNatClampNeg) + v19)), uF2, uF3, uF4, uF5, uF6, uF7, uF8, uF9, uF10, uF11, uF12, uF13, uF14, uF15, uF16, uF17, uF18), wO)) hc hw co_246 k22 so_F_1 dX8_takeFees_75 (fun H locs hw => ?_)
        refine lv_lload_n hx hb dX8_takeFees_76 rfl (lv_at hl 2 rfl) ?_
        refine lv_lload hx hb dX8_takeFees_77 (lv_at hl 0 rfl) ?_
        refine lv_ladd hx hb dX8_takeFees_79 ?_
        refine lv_lstore_n (lv' := [(1, .long (x1 + v19)), (4, .long v19), (0, .ref (xAd κ 245)), (3, .int x3)]) hx hb dX8_takeFees_80 rfl hl (by decide) rfl (fun ls hl => ?_)
        refine lv_iinc (v := (x3 + 1)) (lv' := [(3, .int (x3 + 1)), (1, .long (x1 + v19)), (4, .long v19), (0, .ref (xAd κ 245))]) hx hb dX8_takeFees_81 hl (k := 3) rfl rfl (by decide) rfl (fun ls hl => ?_)
        refine lv_goto (tgt := 13) hx hb dX8_takeFees_84 (by decide) ?_
        exact hi _ _ _ _ _ _ _ _ _ _ hf hw (lv_sub hl [3, 1, 0] rfl)
set_option maxHeartbeats 4000000 in
set_option maxRecDepth 100000 in
theorem m_X8_takeFees {l : Launch} {κ : xKt} {wA : Nat → sAcc} {wT : sTxt} {wG : sRng} {wM : sMai} {wO : sOut} {fu : Nat} {uF0 : Int32} {uF1 : xF64} {uF2 : xF64} {uF3 : xF64} {uF4 : xF64} {uF5 : Int32} {uF6 : Int32} {uF7 : Int32} {uF8 : xF32} {uF9 : Int32} {uF10 : Int32} {uF11 : Int64} {uF12 : xF32} {uF13 : Int32} {uF14 : Int32} {uF15 : Int32} {uF16 : xF32} {uF17 : xF32} {uF18 : Int32} {rr : Int64} {yF0 : Int32} {yF1 : xF64} {yF3 : xF64} {yF4 : xF64} {yF5 : Int32} (hf : f_X8_takeFees fu uF0 uF1 uF3 uF4 uF5 = some (rr, yF0, yF1, yF3, yF4, yF5)) : xMl l κ yX8_takeFees cX8_takeFees 6 (some .long) (xR 7 0 0) [.ref (xAd κ 245)] (wA, wT, wG, wM, (uF0, uF1, uF2, uF3, uF4, uF5, uF6, uF7, uF8, uF9, uF10, uF11, uF12, uF13, uF14, uF15, uF16, uF17, uF18), wO) (wA, wT, wG, wM, (yF0, yF1, uF2, yF3, yF4, yF5, uF6, uF7, uF8, uF9, uF10, uF11, uF12, uF13, uF14, uF15, uF16, uF17, uF18), wO) rr := by
  unfold f_X8_takeFees at hf
  refine xMl_of pn_X8 (Nat.le_of_ble_eq_true rfl) ⟨rfl, rfl⟩ ?_
  intro A p e s m args below meth c ls Q hc hw hl K
  have hc : xC κ A p s m args meth c cX8_takeFees RX8 6 (some .long) := hc
  have hx := hc.1.1
  have hb := hc.1.2.1
  have hl : lv_has ls 6 [(0, .ref (xAd κ 245))] := hl
  refine lv_aload_n hx hb dX8_takeFees_0 rfl (lv_at hl 0 rfl) ?_
  refine lv_iconst (v := 0) hx hb dX8_takeFees_1 (by decide) ?_
  refine x_put (σ' := (wA, wT, wG, wM, (0, uF1, uF2, uF3, uF4, uF5, uF6, uF7, uF8, uF9, uF10, uF11, uF12, uF13, uF14, uF15, uF16, uF17, uF18), wO)) hc hw co_245 fX8_42 rfl rfl (Nat.le_of_ble_eq_true rfl) so_F_0 dX8_takeFees_2 (fun H locs hw => ?_)
  refine lv_aload_n hx hb dX8_takeFees_5 rfl (lv_at hl 0 rfl) ?_
  obtain ⟨uF3_1, h2, hf⟩ := xb1_of hf
  refine x_callvV (As := []) (rest := []) (σ' := (wA, wT, wG, wM, (0, uF1, uF2, uF3_1, uF4, uF5, uF6, uF7, uF8, uF9, uF10, uF11, uF12, uF13, uF14, uF15, uF16, uF17, uF18), wO)) hc hw hl.1 (m_X8_remembers h2) kX8_76 co_245 rfl rfl ⟨rfl, rfl⟩ ⟨Nat.le_of_ble_eq_true rfl, Nat.le_of_ble_eq_true rfl⟩ ⟨Nat.zero_le _, Nat.zero_le _⟩ (Nat.le_of_ble_eq_true rfl) dX8_takeFees_6 (fun H locs hw => ?_)
  refine lv_lconst (v := 0) hx hb dX8_takeFees_9 (by decide) ?_
  refine lv_lstore_n (lv' := [(1, .long 0), (0, .ref (xAd κ 245))]) hx hb dX8_takeFees_10 rfl hl (by decide) rfl (fun ls hl => ?_)
  refine lv_iconst (v := 0) hx hb dX8_takeFees_11 (by decide) ?_
  refine lv_istore_n (lv' := [(3, .int 0), (1, .long 0), (0, .ref (xAd κ 245))]) hx hb dX8_takeFees_12 rfl hl (by decide) rfl (fun ls hl => ?_)
  exact l_X8_takeFees_13 hc K fu _ _ _ _ _ _ _ _ _ _ hf hw (lv_sub hl [2, 1, 0] rfl)
def f_X8_giveBack_39 (fu : Nat) : Nat → (Int64) → (Int32) → (Int32) → (xF64) → (xF64) → (xF64) → (Int32) → (Int32) → Option (Int64 × Int32 × xF64 × xF64 × xF64 × Int32 × Int32)
  | 0, _, _, _, _, _, _, _, _ => none
  | n + 1, x1, x3, uF0, uF1, uF3, uF4, uF5, uF7 => xb1 (f_X8_parties uF1) fun v5 => (if v5 ≤ x3 then (xb1 (f_X8_notes fu 7 x1 uF1) fun uF1_8 => (xb2 (f_X8_keeps fu uF3 uF4 uF5) fun uF4_10 uF5_11 => (some (x1, uF0, uF1_8, uF3, uF4_10, uF5_11, uF7)))) else (xb1 (f_X8_shareOf fu x3 uF1) fun v13 => (xk (xin (38 + x3) 304) (xb1 (f_X8_held x3 uF1) fun v16 => (if (v13 - (uF1 (38 + x3).toNatClampNeg)) ≤ 0 then (if (v16 - 0) ≤ 0 then (xk (xin (44 + x3) 304) (xk (xin (44 + x3) 304) (f_X8_giveBack_39 fu n (x1 + 0) (x3 + 1) uF0 (vp_updL uF1 (44 + x3).toNatClampNeg ((uF1 (44 + x3).toNatClampNeg) + 0)) uF3 uF4 uF5 uF7))) else (xk (xin (44 + x3) 304) (xk (xin (44 + x3) 304) (f_X8_giveBack_39 fu n (x1 + (v16 - 0)) (x3 + 1) uF0 (vp_updL uF1 (44 + x3).toNatClampNeg ((uF1 (44 + x3).toNatClampNeg) + (v16 - 0))) uF3 uF4 uF5 uF7)))) else (if (v16 - (v13 - (uF1 (38 + x3).toNatClampNeg))) ≤ 0 then (xk (xin (44 + x3) 304) (xk (xin (44 + x3) 304) (f_X8_giveBack_39 fu n (x1 + 0) (x3 + 1) uF0 (vp_updL uF1 (44 + x3).toNatClampNeg ((uF1 (44 + x3).toNatClampNeg) + 0)) uF3 uF4 uF5 uF7))) else (xk (xin (44 + x3) 304) (xk (xin (44 + x3) 304) (f_X8_giveBack_39 fu n (x1 + (v16 - (v13 - (uF1 (38 + x3).toNatClampNeg)))) (x3 + 1) uF0 (vp_updL uF1 (44 + x3).toNatClampNeg ((uF1 (44 + x3).toNatClampNeg) + (v16 - (v13 - (uF1 (38 + x3).toNatClampNeg))))) uF3 uF4 uF5 uF7)))))))))
def f_X8_giveBack (fu : Nat) (uF0 : Int32) (uF1 : xF64) (uF3 : xF64) (uF4 : xF64) (uF5 : Int32) (uF7 : Int32) : Option (Int64 × Int32 × xF64 × xF64 × xF64 × Int32 × Int32) :=
  xb1 (f_X8_remembers fu uF1 uF3) fun uF3_1 => (xk (xin 1 304) (if 3 ≤ (uF1 (1 : Int32).toNatClampNeg) then (f_X8_giveBack_39 fu fu 0 0 0 uF1 uF3_1 uF4 uF5 uF7) else (xb2 (f_X8_refuses 6 uF7) fun v29 uF7_30 => (xb2 (f_X8_failsLong 1 0) fun v32 uF0_33 => (some (v32, uF0_33, uF1, uF3_1, uF4, uF5, uF7_30))))))
set_option maxHeartbeats 4000000 in
set_option maxRecDepth 100000 in
theorem l_X8_giveBack_39 {l : Launch} {κ : xKt} {wA : Nat → sAcc} {wT : sTxt} {wG : sRng} {wM : sMai} {wO : sOut} {fu : Nat} {uF2 : xF64} {uF6 : Int32} {uF8 : xF32} {uF9 : Int32} {uF10 : Int32} {uF11 : Int64} {uF12 : xF32} {uF13 : Int32} {uF14 : Int32} {uF15 : Int32} {uF16 : xF32} {uF17 : xF32} {uF18 : Int32} {A : Nat → Prop} {p : Program} {e : Env} {s : State} {m : MethodId} {args : Array Value} {below : List Frame} {meth : Method} {c : Code} {Q : State → Prop} {rr : Int64} {yF0 : Int32} {yF1 : xF64} {yF3 : xF64} {yF4 : xF64} {yF5 : Int32} {yF7 : Int32}
    (hc : xC κ A p s m args meth c cX8_giveBack RX8 8 (some .long))
    (K : ∀ (pc : Nat) (ls : Array Slot) (H : Heap) (locs : List Loc), decode cX8_giveBack pc = .ok (.lreturn, 1) → xW κ A s (wA, wT, wG, wM, (yF0, yF1, uF2, yF3, yF4, yF5, uF6, yF7, uF8, uF9, uF10, uF11, uF12, uF13, uF14, uF15, uF16, uF17, uF18), wO) H locs → W p l e (xR 7 0 0) s m args below meth c H locs 0 0 Q (F0 m pc ls [.long rr])) :
    ∀ (n : Nat) (x1 : Int64) (x3 : Int32) (uF0 : Int32) (uF1 : xF64) (uF3 : xF64) (uF4 : xF64) (uF5 : Int32) (uF7 : Int32) (H : Heap) (locs : List Loc) (ls : Array Slot), f_X8_giveBack_39 fu n x1 x3 uF0 uF1 uF3 uF4 uF5 uF7 = some (rr, yF0, yF1, yF3, yF4, yF5, yF7) → xW κ A s (wA, wT, wG, wM, (uF0, uF1, uF2, uF3, uF4, uF5, uF6, uF7, uF8, uF9, uF10, uF11, uF12, uF13, uF14, uF15, uF16, uF17, uF18), wO) H locs → lv_has ls 8 [(0, .ref (xAd κ 245)), (1, .long x1), (3, .int x3)] → W p l e (xR 7 0 0) s m args below meth c H locs 0 0 Q (F0 m 39 ls []) := by
  have hx := hc.1.1
  have hb := hc.1.2.1
  intro n
  induction n with
  | zero =>
    intro x1 x3 uF0 uF1 uF3 uF4 uF5 uF7 H locs ls hf
    rw [f_X8_giveBack_39] at hf
    cases hf
  | succ n hi =>
    intro x1 x3 uF0 uF1 uF3 uF4 uF5 uF7 H locs ls hf hw hl
    rw [f_X8_giveBack_39] at hf
    refine lv_iload_n hx hb dX8_giveBack_39 rfl (lv_at hl 2 rfl) ?_
    refine lv_aload_n hx hb dX8_giveBack_40 rfl (lv_at hl 0 rfl) ?_
    obtain ⟨v5, h6, hf⟩ := xb1_of hf
    refine x_calliV (As := []) (rest := [.int x3]) (σ' := (wA, wT, wG, wM, (uF0, uF1, uF2, uF3, uF4, uF5, uF6, uF7, uF8, uF9, uF10, uF11, uF12, uF13, uF14, uF15, uF16, uF17, uF18), wO)) hc hw hl.1 (m_X8_parties h6) kX8_59 co_245 rfl rfl ⟨rfl, rfl⟩ ⟨Nat.le_of_ble_eq_true rfl, Nat.le_of_ble_eq_true rfl⟩ ⟨Nat.zero_le _, Nat.zero_le _⟩ (Nat.le_of_ble_eq_true rfl) dX8_giveBack_41 (fun H locs hw => ?_)
    refine lv_icmp_ge (tgt := 125) hx hb dX8_giveBack_44 (by decide) (fun c7 => ?_) (fun c7 => ?_)
    · have hf := xif_t c7 hf
      refine lv_aload_n hx hb dX8_giveBack_125 rfl (lv_at hl 0 rfl) ?_
      refine lv_bipush (v := 7) hx hb dX8_giveBack_126 (by decide) ?_
      refine lv_lload_n hx hb dX8_giveBack_128 rfl (lv_at hl 1 rfl) ?_
      obtain ⟨uF1_8, h9, hf⟩ := xb1_of hf
      refine x_callvV (As := [.int 7, .long x1]) (rest := []) (σ' := (wA, wT, wG, wM, (uF0, uF1_8, uF2, uF3, uF4, uF5, uF6, uF7, uF8, uF9, uF10, uF11, uF12, uF13, uF14, uF15, uF16, uF17, uF18), wO)) hc hw hl.1 (m_X8_notes h9) kX8_192 co_245 rfl rfl ⟨rfl, rfl⟩ ⟨Nat.le_of_ble_eq_true rfl, Nat.le_of_ble_eq_true rfl⟩ ⟨Nat.zero_le _, Nat.zero_le _⟩ (Nat.le_of_ble_eq_true rfl) dX8_giveBack_129 (fun H locs hw => ?_)
      refine lv_aload_n hx hb dX8_giveBack_132 rfl (lv_at hl 0 rfl) ?_
      obtain ⟨uF4_10, uF5_11, h12, hf⟩ := xb2_of hf
      refine x_callvV (As := []) (rest := []) (σ' := (wA, wT, wG, wM, (uF0, uF1_8, uF2, uF3, uF4_10, uF5_11, uF6, uF7, uF8, uF9, uF10, uF11, uF12, uF13, uF14, uF15, uF16, uF17, uF18), wO)) hc hw hl.1 (m_X8_keeps h12) kX8_83 co_245 rfl rfl ⟨rfl, rfl⟩ ⟨Nat.le_of_ble_eq_true rfl, Nat.le_of_ble_eq_true rfl⟩ ⟨Nat.zero_le _, Nat.zero_le _⟩ (Nat.le_of_ble_eq_true rfl) dX8_giveBack_133 (fun H locs hw => ?_)
      refine lv_lload_n hx hb dX8_giveBack_136 rfl (lv_at hl 1 rfl) ?_
      cases hf
      exact K _ _ _ _ dX8_giveBack_137 hw
    · have hf := xif_f c7 hf
      refine lv_aload_n hx hb dX8_giveBack_47 rfl (lv_at hl 0 rfl) ?_
      refine lv_iload_n hx hb dX8_giveBack_48 rfl (lv_at hl 2 rfl) ?_
      obtain ⟨v13, h14, hf⟩ := xb1_of hf
      refine x_calllV (As := [.int x3]) (rest := []) (σ' := (wA, wT, wG, wM, (uF0, uF1, uF2, uF3, uF4, uF5, uF6, uF7, uF8, uF9, uF10, uF11, uF12, uF13, uF14, uF15, uF16, uF17, uF18), wO)) hc hw hl.1 (m_X8_shareOf h14) kX8_159 co_245 rfl rfl ⟨rfl, rfl⟩ ⟨Nat.le_of_ble_eq_true rfl, Nat.le_of_ble_eq_true rfl⟩ ⟨Nat.zero_le _, Nat.zero_le _⟩ (Nat.le_of_ble_eq_true rfl) dX8_giveBack_49 (fun H locs hw => ?_)
      refine lv_aload_n hx hb dX8_giveBack_52 rfl (lv_at hl 0 rfl) ?_
      refine x_get (v := .ref (xAd κ 246)) hc hw co_245 fX8_7 rfl dX8_giveBack_53 ?_
      refine lv_bipush (v := 38) hx hb dX8_giveBack_56 (by decide) ?_
      refine lv_iload_n hx hb dX8_giveBack_58 rfl (lv_at hl 2 rfl) ?_
      refine lv_iadd hx hb dX8_giveBack_59 ?_
      obtain ⟨k15, hf⟩ := xk_of hf
      refine x_lald (n := 304) (f := uF1) hc hw co_246 k15 dX8_giveBack_60 ?_
      refine lv_lsub hx hb dX8_giveBack_61 ?_
      refine lv_lstore (lv' := [(4, .long (v13 - (uF1 (38 + x3).toNatClampNeg))), (0, .ref (xAd κ 245)), (1, .long x1), (3, .int x3)]) hx hb dX8_giveBack_62 hl (by decide) rfl (fun ls hl => ?_)
      refine lv_aload_n hx hb dX8_giveBack_64 rfl (lv_at hl 1 rfl) ?_
      refine lv_iload_n hx hb dX8_giveBack_65 rfl (lv_at hl 3 rfl) ?_
      obtain ⟨v16, h17, hf⟩ := xb1_of hf
      refine x_calllV (As := [.int x3]) (rest := []) (σ' := (wA, wT, wG, wM, (uF0, uF1, uF2, uF3, uF4, uF5, uF6, uF7, uF8, uF9, uF10, uF11, uF12, uF13, uF14, uF15, uF16, uF17, uF18), wO)) hc hw hl.1 (m_X8_held h17) kX8_156 co_245 rfl rfl ⟨rfl, rfl⟩ ⟨Nat.le_of_ble_eq_true rfl, Nat.le_of_ble_eq_true rfl⟩ ⟨Nat.zero_le _, Nat.zero_le _⟩ (Nat.le_of_ble_eq_true rfl) dX8_giveBack_66 (fun H locs hw => ?_)
      refine lv_lload hx hb dX8_giveBack_69 (lv_at hl 0 rfl) ?_
      refine lv_lconst (v := 0) hx hb dX8_giveBack_71 (by decide) ?_
      refine x_lcmp_le (tgt := 81) hx hb dX8_giveBack_72 dX8_giveBack_73 (by decide) (fun c18 => ?_) (fun c18 => ?_)
      · have hf := xif_t c18 hf
        refine lv_lconst (v := 0) hx hb dX8_giveBack_81 (by decide) ?_
        refine lv_lsub hx hb dX8_giveBack_82 ?_
        refine lv_lstore (lv' := [(6, .long (v16 - 0)), (4, .long (v13 - (uF1 (38 + x3).toNatClampNeg))), (0, .ref (xAd κ 245)), (1, .long x1), (3, .int x3)]) hx hb dX8_giveBack_83 hl (by decide) rfl (fun ls hl => ?_)
        refine lv_lload hx hb dX8_giveBack_85 (lv_at hl 0 rfl) ?_
        refine lv_lconst (v := 0) hx hb dX8_giveBack_87 (by decide) ?_
        refine x_lcmp_le (tgt := 97) hx hb dX8_giveBack_88 dX8_giveBack_89 (by decide) (fun c19 => ?_) (fun c19 => ?_)
        · have hf := xif_t c19 hf
          refine lv_lconst (v := 0) hx hb dX8_giveBack_97 (by decide) ?_
          refine lv_lstore (lv' := [(6, .long 0), (4, .long (v13 - (uF1 (38 + x3).toNatClampNeg))), (0, .ref (xAd κ 245)), (1, .long x1), (3, .int x3)]) hx hb dX8_giveBack_98 hl (by decide) rfl (fun ls hl => ?_)
          refine lv_aload_n hx hb dX8_giveBack_100 rfl (lv_at hl 2 rfl) ?_
          refine x_get (v := .ref (xAd κ 246)) hc hw co_245 fX8_7 rfl dX8_giveBack_101 ?_
          refine lv_bipush (v := 44) hx hb dX8_giveBack_104 (by decide) ?_
          refine lv_iload_n hx hb dX8_giveBack_106 rfl (lv_at hl 4 rfl) ?_
          refine lv_iadd hx hb dX8_giveBack_107 ?_
          refine lv_dup2_11 hx hb dX8_giveBack_108 rfl rfl ?_
          obtain ⟨k20, hf⟩ := xk_of hf
          refine x_lald (n := 304) (f := uF1) hc hw co_246 k20 dX8_giveBack_109 ?_
          refine lv_lload hx hb dX8_giveBack_110 (lv_at hl 0 rfl) ?_
          refine lv_ladd hx hb dX8_giveBack_112 ?_
          obtain ⟨k21, hf⟩ := xk_of hf
          refine x_last (n := 304) (f := uF1) (σ' := (wA, wT, wG, wM, (uF0, (vp_updL uF1 (44 + x3).toNatClampNeg ((uF1 (44 + x3).toNatClampNeg) + 0)), uF2, uF3, uF4, uF5, uF6, uF7, uF8, uF9, uF10, uF11, uF12, uF13, uF14, uF15, uF16, uF17, uF18), wO)) hc hw co_246 k21 so_F_1 dX8_giveBack_113 (fun H locs hw => ?_)
          refine lv_lload_n hx hb dX8_giveBack_114 rfl (lv_at hl 3 rfl) ?_
          refine lv_lload hx hb dX8_giveBack_115 (lv_at hl 0 rfl) ?_
          refine lv_ladd hx hb dX8_giveBack_117 ?_
          refine lv_lstore_n (lv' := [(1, .long (x1 + 0)), (6, .long 0), (4, .long (v13 - (uF1 (38 + x3).toNatClampNeg))), (0, .ref (xAd κ 245)), (3, .int x3)]) hx hb dX8_giveBack_118 rfl hl (by decide) rfl (fun ls hl => ?_)
          refine lv_iinc (v := (x3 + 1)) (lv' := [(3, .int (x3 + 1)), (1, .long (x1 + 0)), (6, .long 0), (4, .long (v13 - (uF1 (38 + x3).toNatClampNeg))), (0, .ref (xAd κ 245))]) hx hb dX8_giveBack_119 hl (k := 4) rfl rfl (by decide) rfl (fun ls hl => ?_)
          refine lv_goto (tgt := 39) hx hb dX8_giveBack_122 (by decide) ?_
          exact hi _ _ _ _ _ _ _ _ _ _ _ hf hw (lv_sub hl [4, 1, 0] rfl)
        · have hf := xif_f c19 hf
          refine lv_lload hx hb dX8_giveBack_92 (lv_at hl 0 rfl) ?_
          refine lv_goto (tgt := 98) hx hb dX8_giveBack_94 (by decide) ?_
          refine lv_lstore (lv' := [(6, .long (v16 - 0)), (4, .long (v13 - (uF1 (38 + x3).toNatClampNeg))), (0, .ref (xAd κ 245)), (1, .long x1), (3, .int x3)]) hx hb dX8_giveBack_98 hl (by decide) rfl (fun ls hl => ?_)
          refine lv_aload_n hx hb dX8_giveBack_100 rfl (lv_at hl 2 rfl) ?_
          refine x_get (v := .ref (xAd κ 246)) hc hw co_245 fX8_7 rfl dX8_giveBack_101 ?_
          refine lv_bipush (v := 44) hx hb dX8_giveBack_104 (by decide) ?_
          refine lv_iload_n hx hb dX8_giveBack_106 rfl (lv_at hl 4 rfl) ?_
          refine lv_iadd hx hb dX8_giveBack_107 ?_
          refine lv_dup2_11 hx hb dX8_giveBack_108 rfl rfl ?_
          obtain ⟨k22, hf⟩ := xk_of hf
          refine x_lald (n := 304) (f := uF1) hc hw co_246 k22 dX8_giveBack_109 ?_
          refine lv_lload hx hb dX8_giveBack_110 (lv_at hl 0 rfl) ?_
          refine lv_ladd hx hb dX8_giveBack_112 ?_
          obtain ⟨k23, hf⟩ := xk_of hf
          refine x_last (n := 304) (f := uF1) (σ' := (wA, wT, wG, wM, (uF0, (vp_updL uF1 (44 + x3).toNatClampNeg ((uF1 (44 + x3).toNatClampNeg) + (v16 - 0))), uF2, uF3, uF4, uF5, uF6, uF7, uF8, uF9, uF10, uF11, uF12, uF13, uF14, uF15, uF16, uF17, uF18), wO)) hc hw co_246 k23 so_F_1 dX8_giveBack_113 (fun H locs hw => ?_)
          refine lv_lload_n hx hb dX8_giveBack_114 rfl (lv_at hl 3 rfl) ?_
          refine lv_lload hx hb dX8_giveBack_115 (lv_at hl 0 rfl) ?_
          refine lv_ladd hx hb dX8_giveBack_117 ?_
          refine lv_lstore_n (lv' := [(1, .long (x1 + (v16 - 0))), (6, .long (v16 - 0)), (4, .long (v13 - (uF1 (38 + x3).toNatClampNeg))), (0, .ref (xAd κ 245)), (3, .int x3)]) hx hb dX8_giveBack_118 rfl hl (by decide) rfl (fun ls hl => ?_)
          refine lv_iinc (v := (x3 + 1)) (lv' := [(3, .int (x3 + 1)), (1, .long (x1 + (v16 - 0))), (6, .long (v16 - 0)), (4, .long (v13 - (uF1 (38 + x3).toNatClampNeg))), (0, .ref (xAd κ 245))]) hx hb dX8_giveBack_119 hl (k := 4) rfl rfl (by decide) rfl (fun ls hl => ?_)
          refine lv_goto (tgt := 39) hx hb dX8_giveBack_122 (by decide) ?_
          exact hi _ _ _ _ _ _ _ _ _ _ _ hf hw (lv_sub hl [4, 1, 0] rfl)
      · have hf := xif_f c18 hf
        refine lv_lload hx hb dX8_giveBack_76 (lv_at hl 0 rfl) ?_
        refine lv_goto (tgt := 82) hx hb dX8_giveBack_78 (by decide) ?_
        refine lv_lsub hx hb dX8_giveBack_82 ?_
        refine lv_lstore (lv' := [(6, .long (v16 - (v13 - (uF1 (38 + x3).toNatClampNeg)))), (4, .long (v13 - (uF1 (38 + x3).toNatClampNeg))), (0, .ref (xAd κ 245)), (1, .long x1), (3, .int x3)]) hx hb dX8_giveBack_83 hl (by decide) rfl (fun ls hl => ?_)
        refine lv_lload hx hb dX8_giveBack_85 (lv_at hl 0 rfl) ?_
        refine lv_lconst (v := 0) hx hb dX8_giveBack_87 (by decide) ?_
        refine x_lcmp_le (tgt := 97) hx hb dX8_giveBack_88 dX8_giveBack_89 (by decide) (fun c24 => ?_) (fun c24 => ?_)
        · have hf := xif_t c24 hf
          refine lv_lconst (v := 0) hx hb dX8_giveBack_97 (by decide) ?_
          refine lv_lstore (lv' := [(6, .long 0), (4, .long (v13 - (uF1 (38 + x3).toNatClampNeg))), (0, .ref (xAd κ 245)), (1, .long x1), (3, .int x3)]) hx hb dX8_giveBack_98 hl (by decide) rfl (fun ls hl => ?_)
          refine lv_aload_n hx hb dX8_giveBack_100 rfl (lv_at hl 2 rfl) ?_
          refine x_get (v := .ref (xAd κ 246)) hc hw co_245 fX8_7 rfl dX8_giveBack_101 ?_
          refine lv_bipush (v := 44) hx hb dX8_giveBack_104 (by decide) ?_
          refine lv_iload_n hx hb dX8_giveBack_106 rfl (lv_at hl 4 rfl) ?_
          refine lv_iadd hx hb dX8_giveBack_107 ?_
          refine lv_dup2_11 hx hb dX8_giveBack_108 rfl rfl ?_
          obtain ⟨k25, hf⟩ := xk_of hf
          refine x_lald (n := 304) (f := uF1) hc hw co_246 k25 dX8_giveBack_109 ?_
          refine lv_lload hx hb dX8_giveBack_110 (lv_at hl 0 rfl) ?_
          refine lv_ladd hx hb dX8_giveBack_112 ?_
          obtain ⟨k26, hf⟩ := xk_of hf
          refine x_last (n := 304) (f := uF1) (σ' := (wA, wT, wG, wM, (uF0, (vp_updL uF1 (44 + x3).toNatClampNeg ((uF1 (44 + x3).toNatClampNeg) + 0)), uF2, uF3, uF4, uF5, uF6, uF7, uF8, uF9, uF10, uF11, uF12, uF13, uF14, uF15, uF16, uF17, uF18), wO)) hc hw co_246 k26 so_F_1 dX8_giveBack_113 (fun H locs hw => ?_)
          refine lv_lload_n hx hb dX8_giveBack_114 rfl (lv_at hl 3 rfl) ?_
          refine lv_lload hx hb dX8_giveBack_115 (lv_at hl 0 rfl) ?_
          refine lv_ladd hx hb dX8_giveBack_117 ?_
          refine lv_lstore_n (lv' := [(1, .long (x1 + 0)), (6, .long 0), (4, .long (v13 - (uF1 (38 + x3).toNatClampNeg))), (0, .ref (xAd κ 245)), (3, .int x3)]) hx hb dX8_giveBack_118 rfl hl (by decide) rfl (fun ls hl => ?_)
          refine lv_iinc (v := (x3 + 1)) (lv' := [(3, .int (x3 + 1)), (1, .long (x1 + 0)), (6, .long 0), (4, .long (v13 - (uF1 (38 + x3).toNatClampNeg))), (0, .ref (xAd κ 245))]) hx hb dX8_giveBack_119 hl (k := 4) rfl rfl (by decide) rfl (fun ls hl => ?_)
          refine lv_goto (tgt := 39) hx hb dX8_giveBack_122 (by decide) ?_
          exact hi _ _ _ _ _ _ _ _ _ _ _ hf hw (lv_sub hl [4, 1, 0] rfl)
        · have hf := xif_f c24 hf
          refine lv_lload hx hb dX8_giveBack_92 (lv_at hl 0 rfl) ?_
          refine lv_goto (tgt := 98) hx hb dX8_giveBack_94 (by decide) ?_
          refine lv_lstore (lv' := [(6, .long (v16 - (v13 - (uF1 (38 + x3).toNatClampNeg)))), (4, .long (v13 - (uF1 (38 + x3).toNatClampNeg))), (0, .ref (xAd κ 245)), (1, .long x1), (3, .int x3)]) hx hb dX8_giveBack_98 hl (by decide) rfl (fun ls hl => ?_)
          refine lv_aload_n hx hb dX8_giveBack_100 rfl (lv_at hl 2 rfl) ?_
          refine x_get (v := .ref (xAd κ 246)) hc hw co_245 fX8_7 rfl dX8_giveBack_101 ?_
          refine lv_bipush (v := 44) hx hb dX8_giveBack_104 (by decide) ?_
          refine lv_iload_n hx hb dX8_giveBack_106 rfl (lv_at hl 4 rfl) ?_
          refine lv_iadd hx hb dX8_giveBack_107 ?_
          refine lv_dup2_11 hx hb dX8_giveBack_108 rfl rfl ?_
          obtain ⟨k27, hf⟩ := xk_of hf
          refine x_lald (n := 304) (f := uF1) hc hw co_246 k27 dX8_giveBack_109 ?_
          refine lv_lload hx hb dX8_giveBack_110 (lv_at hl 0 rfl) ?_
          refine lv_ladd hx hb dX8_giveBack_112 ?_
          obtain ⟨k28, hf⟩ := xk_of hf
          refine x_last (n := 304) (f := uF1) (σ' := (wA, wT, wG, wM, (uF0, (vp_updL uF1 (44 + x3).toNatClampNeg ((uF1 (44 + x3).toNatClampNeg) + (v16 - (v13 - (uF1 (38 + x3).toNatClampNeg))))), uF2, uF3, uF4, uF5, uF6, uF7, uF8, uF9, uF10, uF11, uF12, uF13, uF14, uF15, uF16, uF17, uF18), wO)) hc hw co_246 k28 so_F_1 dX8_giveBack_113 (fun H locs hw => ?_)
          refine lv_lload_n hx hb dX8_giveBack_114 rfl (lv_at hl 3 rfl) ?_
          refine lv_lload hx hb dX8_giveBack_115 (lv_at hl 0 rfl) ?_
          refine lv_ladd hx hb dX8_giveBack_117 ?_
          refine lv_lstore_n (lv' := [(1, .long (x1 + (v16 - (v13 - (uF1 (38 + x3).toNatClampNeg))))), (6, .long (v16 - (v13 - (uF1 (38 + x3).toNatClampNeg)))), (4, .long (v13 - (uF1 (38 + x3).toNatClampNeg))), (0, .ref (xAd κ 245)), (3, .int x3)]) hx hb dX8_giveBack_118 rfl hl (by decide) rfl (fun ls hl => ?_)
          refine lv_iinc (v := (x3 + 1)) (lv' := [(3, .int (x3 + 1)), (1, .long (x1 + (v16 - (v13 - (uF1 (38 + x3).toNatClampNeg))))), (6, .long (v16 - (v13 - (uF1 (38 + x3).toNatClampNeg)))), (4, .long (v13 - (uF1 (38 + x3).toNatClampNeg))), (0, .ref (xAd κ 245))]) hx hb dX8_giveBack_119 hl (k := 4) rfl rfl (by decide) rfl (fun ls hl => ?_)
          refine lv_goto (tgt := 39) hx hb dX8_giveBack_122 (by decide) ?_
          exact hi _ _ _ _ _ _ _ _ _ _ _ hf hw (lv_sub hl [4, 1, 0] rfl)
set_option maxHeartbeats 4000000 in
set_option maxRecDepth 100000 in
theorem m_X8_giveBack {l : Launch} {κ : xKt} {wA : Nat → sAcc} {wT : sTxt} {wG : sRng} {wM : sMai} {wO : sOut} {fu : Nat} {uF0 : Int32} {uF1 : xF64} {uF2 : xF64} {uF3 : xF64} {uF4 : xF64} {uF5 : Int32} {uF6 : Int32} {uF7 : Int32} {uF8 : xF32} {uF9 : Int32} {uF10 : Int32} {uF11 : Int64} {uF12 : xF32} {uF13 : Int32} {uF14 : Int32} {uF15 : Int32} {uF16 : xF32} {uF17 : xF32} {uF18 : Int32} {rr : Int64} {yF0 : Int32} {yF1 : xF64} {yF3 : xF64} {yF4 : xF64} {yF5 : Int32} {yF7 : Int32} (hf : f_X8_giveBack fu uF0 uF1 uF3 uF4 uF5 uF7 = some (rr, yF0, yF1, yF3, yF4, yF5, yF7)) : xMl l κ yX8_giveBack cX8_giveBack 8 (some .long) (xR 7 0 0) [.ref (xAd κ 245)] (wA, wT, wG, wM, (uF0, uF1, uF2, uF3, uF4, uF5, uF6, uF7, uF8, uF9, uF10, uF11, uF12, uF13, uF14, uF15, uF16, uF17, uF18), wO) (wA, wT, wG, wM, (yF0, yF1, uF2, yF3, yF4, yF5, uF6, yF7, uF8, uF9, uF10, uF11, uF12, uF13, uF14, uF15, uF16, uF17, uF18), wO) rr := by
  unfold f_X8_giveBack at hf
  refine xMl_of pn_X8 (Nat.le_of_ble_eq_true rfl) ⟨rfl, rfl⟩ ?_
  intro A p e s m args below meth c ls Q hc hw hl K
  have hc : xC κ A p s m args meth c cX8_giveBack RX8 8 (some .long) := hc
  have hx := hc.1.1
  have hb := hc.1.2.1
  have hl : lv_has ls 8 [(0, .ref (xAd κ 245))] := hl
  refine lv_aload_n hx hb dX8_giveBack_0 rfl (lv_at hl 0 rfl) ?_
  refine lv_iconst (v := 0) hx hb dX8_giveBack_1 (by decide) ?_
  refine x_put (σ' := (wA, wT, wG, wM, (0, uF1, uF2, uF3, uF4, uF5, uF6, uF7, uF8, uF9, uF10, uF11, uF12, uF13, uF14, uF15, uF16, uF17, uF18), wO)) hc hw co_245 fX8_42 rfl rfl (Nat.le_of_ble_eq_true rfl) so_F_0 dX8_giveBack_2 (fun H locs hw => ?_)
  refine lv_aload_n hx hb dX8_giveBack_5 rfl (lv_at hl 0 rfl) ?_
  obtain ⟨uF3_1, h2, hf⟩ := xb1_of hf
  refine x_callvV (As := []) (rest := []) (σ' := (wA, wT, wG, wM, (0, uF1, uF2, uF3_1, uF4, uF5, uF6, uF7, uF8, uF9, uF10, uF11, uF12, uF13, uF14, uF15, uF16, uF17, uF18), wO)) hc hw hl.1 (m_X8_remembers h2) kX8_76 co_245 rfl rfl ⟨rfl, rfl⟩ ⟨Nat.le_of_ble_eq_true rfl, Nat.le_of_ble_eq_true rfl⟩ ⟨Nat.zero_le _, Nat.zero_le _⟩ (Nat.le_of_ble_eq_true rfl) dX8_giveBack_6 (fun H locs hw => ?_)
  refine lv_aload_n hx hb dX8_giveBack_9 rfl (lv_at hl 0 rfl) ?_
  refine x_get (v := .ref (xAd κ 246)) hc hw co_245 fX8_7 rfl dX8_giveBack_10 ?_
  refine lv_iconst (v := 1) hx hb dX8_giveBack_13 (by decide) ?_
  obtain ⟨k3, hf⟩ := xk_of hf
  refine x_lald (n := 304) (f := uF1) hc hw co_246 k3 dX8_giveBack_14 ?_
  refine x_ldc2 hc w_constantLong_RX8_173_3 dX8_giveBack_15 ?_
  refine x_lcmp_ge (tgt := 35) hx hb dX8_giveBack_18 dX8_giveBack_19 (by decide) (fun c4 => ?_) (fun c4 => ?_)
  · have hf := xif_t c4 hf
    refine lv_lconst (v := 0) hx hb dX8_giveBack_35 (by decide) ?_
    refine lv_lstore_n (lv' := [(1, .long 0), (0, .ref (xAd κ 245))]) hx hb dX8_giveBack_36 rfl hl (by decide) rfl (fun ls hl => ?_)
    refine lv_iconst (v := 0) hx hb dX8_giveBack_37 (by decide) ?_
    refine lv_istore_n (lv' := [(3, .int 0), (1, .long 0), (0, .ref (xAd κ 245))]) hx hb dX8_giveBack_38 rfl hl (by decide) rfl (fun ls hl => ?_)
    exact l_X8_giveBack_39 hc K fu _ _ _ _ _ _ _ _ _ _ _ hf hw (lv_sub hl [2, 1, 0] rfl)
  · have hf := xif_f c4 hf
    refine lv_aload_n hx hb dX8_giveBack_22 rfl (lv_at hl 0 rfl) ?_
    refine lv_bipush (v := 6) hx hb dX8_giveBack_23 (by decide) ?_
    obtain ⟨v29, uF7_30, h31, hf⟩ := xb2_of hf
    refine x_calliV (As := [.int 6]) (rest := []) (σ' := (wA, wT, wG, wM, (0, uF1, uF2, uF3_1, uF4, uF5, uF6, uF7_30, uF8, uF9, uF10, uF11, uF12, uF13, uF14, uF15, uF16, uF17, uF18), wO)) hc hw hl.1 (m_X8_refuses h31) kX8_182 co_245 rfl rfl ⟨rfl, rfl⟩ ⟨Nat.le_of_ble_eq_true rfl, Nat.le_of_ble_eq_true rfl⟩ ⟨Nat.zero_le _, Nat.zero_le _⟩ (Nat.le_of_ble_eq_true rfl) dX8_giveBack_25 (fun H locs hw => ?_)
    refine lv_pop hx hb dX8_giveBack_28 rfl ?_
    refine lv_aload_n hx hb dX8_giveBack_29 rfl (lv_at hl 0 rfl) ?_
    refine lv_iconst (v := 1) hx hb dX8_giveBack_30 (by decide) ?_
    obtain ⟨v32, uF0_33, h34, hf⟩ := xb2_of hf
    refine x_calllV (As := [.int 1]) (rest := []) (σ' := (wA, wT, wG, wM, (uF0_33, uF1, uF2, uF3_1, uF4, uF5, uF6, uF7_30, uF8, uF9, uF10, uF11, uF12, uF13, uF14, uF15, uF16, uF17, uF18), wO)) hc hw hl.1 (m_X8_failsLong h34) kX8_153 co_245 rfl rfl ⟨rfl, rfl⟩ ⟨Nat.le_of_ble_eq_true rfl, Nat.le_of_ble_eq_true rfl⟩ ⟨Nat.zero_le _, Nat.zero_le _⟩ (Nat.le_of_ble_eq_true rfl) dX8_giveBack_31 (fun H locs hw => ?_)
    cases hf
    exact K _ _ _ _ dX8_giveBack_34 hw
def f_X8_owed (fu : Nat) (x1 : Int32) (x2 : Int32) (uF0 : Int32) (uF1 : xF64) : Option (Int64 × Int32) :=
  xb1 (f_X8_isParty x1 uF1) fun v1 => (if v1 = 0 then (xb2 (f_X8_failsLong 1 0) fun v4 uF0_5 => (some (v4, uF0_5))) else (xb1 (f_X8_isParty x2 uF1) fun v7 => (if v7 = 0 then (xb2 (f_X8_failsLong 1 0) fun v10 uF0_11 => (some (v10, uF0_11))) else (xb1 (f_X8_owedBy fu x1 x2 uF1) fun v13 => (some (v13, 0))))))
set_option maxHeartbeats 4000000 in
set_option maxRecDepth 100000 in
theorem m_X8_owed {l : Launch} {κ : xKt} {wA : Nat → sAcc} {wT : sTxt} {wG : sRng} {wM : sMai} {wO : sOut} {fu : Nat} {x1 : Int32} {x2 : Int32} {uF0 : Int32} {uF1 : xF64} {uF2 : xF64} {uF3 : xF64} {uF4 : xF64} {uF5 : Int32} {uF6 : Int32} {uF7 : Int32} {uF8 : xF32} {uF9 : Int32} {uF10 : Int32} {uF11 : Int64} {uF12 : xF32} {uF13 : Int32} {uF14 : Int32} {uF15 : Int32} {uF16 : xF32} {uF17 : xF32} {uF18 : Int32} {rr : Int64} {yF0 : Int32} (hf : f_X8_owed fu x1 x2 uF0 uF1 = some (rr, yF0)) : xMl l κ yX8_owed cX8_owed 3 (some .long) (xR 3 0 0) [.ref (xAd κ 245), .int x1, .int x2] (wA, wT, wG, wM, (uF0, uF1, uF2, uF3, uF4, uF5, uF6, uF7, uF8, uF9, uF10, uF11, uF12, uF13, uF14, uF15, uF16, uF17, uF18), wO) (wA, wT, wG, wM, (yF0, uF1, uF2, uF3, uF4, uF5, uF6, uF7, uF8, uF9, uF10, uF11, uF12, uF13, uF14, uF15, uF16, uF17, uF18), wO) rr := by
  unfold f_X8_owed at hf
  refine xMl_of pn_X8 (Nat.le_of_ble_eq_true rfl) ⟨rfl, rfl⟩ ?_
  intro A p e s m args below meth c ls Q hc hw hl K
  have hc : xC κ A p s m args meth c cX8_owed RX8 3 (some .long) := hc
  have hx := hc.1.1
  have hb := hc.1.2.1
  have hl : lv_has ls 3 [(0, .ref (xAd κ 245)), (1, .int x1), (2, .int x2)] := hl
  refine lv_aload_n hx hb dX8_owed_0 rfl (lv_at hl 0 rfl) ?_
  refine lv_iconst (v := 0) hx hb dX8_owed_1 (by decide) ?_
  refine x_put (σ' := (wA, wT, wG, wM, (0, uF1, uF2, uF3, uF4, uF5, uF6, uF7, uF8, uF9, uF10, uF11, uF12, uF13, uF14, uF15, uF16, uF17, uF18), wO)) hc hw co_245 fX8_42 rfl rfl (Nat.le_of_ble_eq_true rfl) so_F_0 dX8_owed_2 (fun H locs hw => ?_)
  refine lv_aload_n hx hb dX8_owed_5 rfl (lv_at hl 0 rfl) ?_
  refine lv_iload_n hx hb dX8_owed_6 rfl (lv_at hl 1 rfl) ?_
  obtain ⟨v1, h2, hf⟩ := xb1_of hf
  refine x_calliV (As := [.int x1]) (rest := []) (σ' := (wA, wT, wG, wM, (0, uF1, uF2, uF3, uF4, uF5, uF6, uF7, uF8, uF9, uF10, uF11, uF12, uF13, uF14, uF15, uF16, uF17, uF18), wO)) hc hw hl.1 (m_X8_isParty h2) kX8_149 co_245 rfl rfl ⟨rfl, rfl⟩ ⟨Nat.le_of_ble_eq_true rfl, Nat.le_of_ble_eq_true rfl⟩ ⟨Nat.zero_le _, Nat.zero_le _⟩ (Nat.le_of_ble_eq_true rfl) dX8_owed_7 (fun H locs hw => ?_)
  refine lv_if_eq (tgt := 30) hx hb dX8_owed_10 (by decide) (fun c3 => ?_) (fun c3 => ?_)
  · have hf := xif_t c3 hf
    refine lv_aload_n hx hb dX8_owed_30 rfl (lv_at hl 0 rfl) ?_
    refine lv_iconst (v := 1) hx hb dX8_owed_31 (by decide) ?_
    obtain ⟨v4, uF0_5, h6, hf⟩ := xb2_of hf
    refine x_calllV (As := [.int 1]) (rest := []) (σ' := (wA, wT, wG, wM, (uF0_5, uF1, uF2, uF3, uF4, uF5, uF6, uF7, uF8, uF9, uF10, uF11, uF12, uF13, uF14, uF15, uF16, uF17, uF18), wO)) hc hw hl.1 (m_X8_failsLong h6) kX8_153 co_245 rfl rfl ⟨rfl, rfl⟩ ⟨Nat.le_of_ble_eq_true rfl, Nat.le_of_ble_eq_true rfl⟩ ⟨Nat.zero_le _, Nat.zero_le _⟩ (Nat.le_of_ble_eq_true rfl) dX8_owed_32 (fun H locs hw => ?_)
    cases hf
    exact K _ _ _ _ dX8_owed_35 hw
  · have hf := xif_f c3 hf
    refine lv_aload_n hx hb dX8_owed_13 rfl (lv_at hl 0 rfl) ?_
    refine lv_iload_n hx hb dX8_owed_14 rfl (lv_at hl 2 rfl) ?_
    obtain ⟨v7, h8, hf⟩ := xb1_of hf
    refine x_calliV (As := [.int x2]) (rest := []) (σ' := (wA, wT, wG, wM, (0, uF1, uF2, uF3, uF4, uF5, uF6, uF7, uF8, uF9, uF10, uF11, uF12, uF13, uF14, uF15, uF16, uF17, uF18), wO)) hc hw hl.1 (m_X8_isParty h8) kX8_149 co_245 rfl rfl ⟨rfl, rfl⟩ ⟨Nat.le_of_ble_eq_true rfl, Nat.le_of_ble_eq_true rfl⟩ ⟨Nat.zero_le _, Nat.zero_le _⟩ (Nat.le_of_ble_eq_true rfl) dX8_owed_15 (fun H locs hw => ?_)
    refine lv_if_eq (tgt := 30) hx hb dX8_owed_18 (by decide) (fun c9 => ?_) (fun c9 => ?_)
    · have hf := xif_t c9 hf
      refine lv_aload_n hx hb dX8_owed_30 rfl (lv_at hl 0 rfl) ?_
      refine lv_iconst (v := 1) hx hb dX8_owed_31 (by decide) ?_
      obtain ⟨v10, uF0_11, h12, hf⟩ := xb2_of hf
      refine x_calllV (As := [.int 1]) (rest := []) (σ' := (wA, wT, wG, wM, (uF0_11, uF1, uF2, uF3, uF4, uF5, uF6, uF7, uF8, uF9, uF10, uF11, uF12, uF13, uF14, uF15, uF16, uF17, uF18), wO)) hc hw hl.1 (m_X8_failsLong h12) kX8_153 co_245 rfl rfl ⟨rfl, rfl⟩ ⟨Nat.le_of_ble_eq_true rfl, Nat.le_of_ble_eq_true rfl⟩ ⟨Nat.zero_le _, Nat.zero_le _⟩ (Nat.le_of_ble_eq_true rfl) dX8_owed_32 (fun H locs hw => ?_)
      cases hf
      exact K _ _ _ _ dX8_owed_35 hw
    · have hf := xif_f c9 hf
      refine lv_aload_n hx hb dX8_owed_21 rfl (lv_at hl 0 rfl) ?_
      refine lv_iload_n hx hb dX8_owed_22 rfl (lv_at hl 1 rfl) ?_
      refine lv_iload_n hx hb dX8_owed_23 rfl (lv_at hl 2 rfl) ?_
      obtain ⟨v13, h14, hf⟩ := xb1_of hf
      refine x_calllV (As := [.int x1, .int x2]) (rest := []) (σ' := (wA, wT, wG, wM, (0, uF1, uF2, uF3, uF4, uF5, uF6, uF7, uF8, uF9, uF10, uF11, uF12, uF13, uF14, uF15, uF16, uF17, uF18), wO)) hc hw hl.1 (m_X8_owedBy h14) kX8_196 co_245 rfl rfl ⟨rfl, rfl⟩ ⟨Nat.le_of_ble_eq_true rfl, Nat.le_of_ble_eq_true rfl⟩ ⟨Nat.zero_le _, Nat.zero_le _⟩ (Nat.le_of_ble_eq_true rfl) dX8_owed_24 (fun H locs hw => ?_)
      refine lv_goto (tgt := 35) hx hb dX8_owed_27 (by decide) ?_
      cases hf
      exact K _ _ _ _ dX8_owed_35 hw
def f_X8_debt (x1 : Int32) (x2 : Int32) (uF0 : Int32) (uF1 : xF64) : Option (Int64 × Int32) :=
  xb1 (f_X8_isDebt x1 uF1) fun v1 => (if v1 = 0 then (xb2 (f_X8_failsLong 1 0) fun v13 uF0_14 => (some (v13, uF0_14))) else (xb1 (f_X8_in x2 0 4) fun v4 => (if v4 = 0 then (xb2 (f_X8_failsLong 2 0) fun v7 uF0_8 => (some (v7, uF0_8))) else (xb1 (f_X8_debtAt x1 x2) fun v10 => (xk (xin v10 304) (some ((uF1 v10.toNatClampNeg), 0)))))))
set_option maxHeartbeats 4000000 in
set_option maxRecDepth 100000 in
theorem m_X8_debt {l : Launch} {κ : xKt} {wA : Nat → sAcc} {wT : sTxt} {wG : sRng} {wM : sMai} {wO : sOut}  {x1 : Int32} {x2 : Int32} {uF0 : Int32} {uF1 : xF64} {uF2 : xF64} {uF3 : xF64} {uF4 : xF64} {uF5 : Int32} {uF6 : Int32} {uF7 : Int32} {uF8 : xF32} {uF9 : Int32} {uF10 : Int32} {uF11 : Int64} {uF12 : xF32} {uF13 : Int32} {uF14 : Int32} {uF15 : Int32} {uF16 : xF32} {uF17 : xF32} {uF18 : Int32} {rr : Int64} {yF0 : Int32} (hf : f_X8_debt x1 x2 uF0 uF1 = some (rr, yF0)) : xMl l κ yX8_debt cX8_debt 3 (some .long) (xR 2 0 0) [.ref (xAd κ 245), .int x1, .int x2] (wA, wT, wG, wM, (uF0, uF1, uF2, uF3, uF4, uF5, uF6, uF7, uF8, uF9, uF10, uF11, uF12, uF13, uF14, uF15, uF16, uF17, uF18), wO) (wA, wT, wG, wM, (yF0, uF1, uF2, uF3, uF4, uF5, uF6, uF7, uF8, uF9, uF10, uF11, uF12, uF13, uF14, uF15, uF16, uF17, uF18), wO) rr := by
  unfold f_X8_debt at hf
  refine xMl_of pn_X8 (Nat.le_of_ble_eq_true rfl) ⟨rfl, rfl⟩ ?_
  intro A p e s m args below meth c ls Q hc hw hl K
  have hc : xC κ A p s m args meth c cX8_debt RX8 3 (some .long) := hc
  have hx := hc.1.1
  have hb := hc.1.2.1
  have hl : lv_has ls 3 [(0, .ref (xAd κ 245)), (1, .int x1), (2, .int x2)] := hl
  refine lv_aload_n hx hb dX8_debt_0 rfl (lv_at hl 0 rfl) ?_
  refine lv_iconst (v := 0) hx hb dX8_debt_1 (by decide) ?_
  refine x_put (σ' := (wA, wT, wG, wM, (0, uF1, uF2, uF3, uF4, uF5, uF6, uF7, uF8, uF9, uF10, uF11, uF12, uF13, uF14, uF15, uF16, uF17, uF18), wO)) hc hw co_245 fX8_42 rfl rfl (Nat.le_of_ble_eq_true rfl) so_F_0 dX8_debt_2 (fun H locs hw => ?_)
  refine lv_aload_n hx hb dX8_debt_5 rfl (lv_at hl 0 rfl) ?_
  refine lv_iload_n hx hb dX8_debt_6 rfl (lv_at hl 1 rfl) ?_
  obtain ⟨v1, h2, hf⟩ := xb1_of hf
  refine x_calliV (As := [.int x1]) (rest := []) (σ' := (wA, wT, wG, wM, (0, uF1, uF2, uF3, uF4, uF5, uF6, uF7, uF8, uF9, uF10, uF11, uF12, uF13, uF14, uF15, uF16, uF17, uF18), wO)) hc hw hl.1 (m_X8_isDebt h2) kX8_227 co_245 rfl rfl ⟨rfl, rfl⟩ ⟨Nat.le_of_ble_eq_true rfl, Nat.le_of_ble_eq_true rfl⟩ ⟨Nat.zero_le _, Nat.zero_le _⟩ (Nat.le_of_ble_eq_true rfl) dX8_debt_7 (fun H locs hw => ?_)
  refine lv_if_ne (tgt := 19) hx hb dX8_debt_10 (by decide) (fun c3 => ?_) (fun c3 => ?_)
  · have hf := xif_f c3 hf
    refine lv_iload_n hx hb dX8_debt_19 rfl (lv_at hl 2 rfl) ?_
    refine lv_iconst (v := 0) hx hb dX8_debt_20 (by decide) ?_
    refine lv_iconst (v := 4) hx hb dX8_debt_21 (by decide) ?_
    obtain ⟨v4, h5, hf⟩ := xb1_of hf
    refine x_calliS (As := [.int x2, .int 0, .int 4]) (rest := []) (σ' := (wA, wT, wG, wM, (0, uF1, uF2, uF3, uF4, uF5, uF6, uF7, uF8, uF9, uF10, uF11, uF12, uF13, uF14, uF15, uF16, uF17, uF18), wO)) hc hw hl.1 (m_X8_in h5) kX8_63 rfl rfl ⟨rfl, rfl⟩ ⟨Nat.le_of_ble_eq_true rfl, Nat.le_of_ble_eq_true rfl⟩ ⟨Nat.zero_le _, Nat.zero_le _⟩ (Nat.le_of_ble_eq_true rfl) dX8_debt_22 (fun H locs hw => ?_)
    refine lv_if_eq (tgt := 42) hx hb dX8_debt_25 (by decide) (fun c6 => ?_) (fun c6 => ?_)
    · have hf := xif_t c6 hf
      refine lv_aload_n hx hb dX8_debt_42 rfl (lv_at hl 0 rfl) ?_
      refine lv_iconst (v := 2) hx hb dX8_debt_43 (by decide) ?_
      obtain ⟨v7, uF0_8, h9, hf⟩ := xb2_of hf
      refine x_calllV (As := [.int 2]) (rest := []) (σ' := (wA, wT, wG, wM, (uF0_8, uF1, uF2, uF3, uF4, uF5, uF6, uF7, uF8, uF9, uF10, uF11, uF12, uF13, uF14, uF15, uF16, uF17, uF18), wO)) hc hw hl.1 (m_X8_failsLong h9) kX8_153 co_245 rfl rfl ⟨rfl, rfl⟩ ⟨Nat.le_of_ble_eq_true rfl, Nat.le_of_ble_eq_true rfl⟩ ⟨Nat.zero_le _, Nat.zero_le _⟩ (Nat.le_of_ble_eq_true rfl) dX8_debt_44 (fun H locs hw => ?_)
      cases hf
      exact K _ _ _ _ dX8_debt_47 hw
    · have hf := xif_f c6 hf
      refine lv_aload_n hx hb dX8_debt_28 rfl (lv_at hl 0 rfl) ?_
      refine x_get (v := .ref (xAd κ 246)) hc hw co_245 fX8_7 rfl dX8_debt_29 ?_
      refine lv_aload_n hx hb dX8_debt_32 rfl (lv_at hl 0 rfl) ?_
      refine lv_iload_n hx hb dX8_debt_33 rfl (lv_at hl 1 rfl) ?_
      refine lv_iload_n hx hb dX8_debt_34 rfl (lv_at hl 2 rfl) ?_
      obtain ⟨v10, h11, hf⟩ := xb1_of hf
      refine x_calliV (As := [.int x1, .int x2]) (rest := [.ref (xAd κ 246)]) (σ' := (wA, wT, wG, wM, (0, uF1, uF2, uF3, uF4, uF5, uF6, uF7, uF8, uF9, uF10, uF11, uF12, uF13, uF14, uF15, uF16, uF17, uF18), wO)) hc hw hl.1 (m_X8_debtAt h11) kX8_140 co_245 rfl rfl ⟨rfl, rfl⟩ ⟨Nat.le_of_ble_eq_true rfl, Nat.le_of_ble_eq_true rfl⟩ ⟨Nat.zero_le _, Nat.zero_le _⟩ (Nat.le_of_ble_eq_true rfl) dX8_debt_35 (fun H locs hw => ?_)
      obtain ⟨k12, hf⟩ := xk_of hf
      refine x_lald (n := 304) (f := uF1) hc hw co_246 k12 dX8_debt_38 ?_
      refine lv_goto (tgt := 47) hx hb dX8_debt_39 (by decide) ?_
      cases hf
      exact K _ _ _ _ dX8_debt_47 hw
  · have hf := xif_t c3 hf
    refine lv_aload_n hx hb dX8_debt_13 rfl (lv_at hl 0 rfl) ?_
    refine lv_iconst (v := 1) hx hb dX8_debt_14 (by decide) ?_
    obtain ⟨v13, uF0_14, h15, hf⟩ := xb2_of hf
    refine x_calllV (As := [.int 1]) (rest := []) (σ' := (wA, wT, wG, wM, (uF0_14, uF1, uF2, uF3, uF4, uF5, uF6, uF7, uF8, uF9, uF10, uF11, uF12, uF13, uF14, uF15, uF16, uF17, uF18), wO)) hc hw hl.1 (m_X8_failsLong h15) kX8_153 co_245 rfl rfl ⟨rfl, rfl⟩ ⟨Nat.le_of_ble_eq_true rfl, Nat.le_of_ble_eq_true rfl⟩ ⟨Nat.zero_le _, Nat.zero_le _⟩ (Nat.le_of_ble_eq_true rfl) dX8_debt_15 (fun H locs hw => ?_)
    cases hf
    exact K _ _ _ _ dX8_debt_18 hw
def f_X8_settle (fu : Nat) (x1 : Int32) (x2 : Int32) (x3 : Int32) (uF0 : Int32) (uF1 : xF64) (uF3 : xF64) (uF4 : xF64) (uF5 : Int32) (uF7 : Int32) (uF11 : Int64) : Option (Int64 × Int32 × xF64 × xF64 × xF64 × Int32 × Int32 × Int64) :=
  xb1 (f_X8_remembers fu uF1 uF3) fun uF3_1 => (xb4 (f_X8_settling fu x1 x2 x3 uF1 uF7 uF11) fun v3 uF1_4 uF7_5 uF11_6 => (xb4 (f_X8_ends fu v3 uF0 uF3_1 uF4 uF5 uF11_6) fun v8 uF0_9 uF4_10 uF5_11 => (some (v8, uF0_9, uF1_4, uF3_1, uF4_10, uF5_11, uF7_5, uF11_6))))
set_option maxHeartbeats 4000000 in
set_option maxRecDepth 100000 in
theorem m_X8_settle {l : Launch} {κ : xKt} {wA : Nat → sAcc} {wT : sTxt} {wG : sRng} {wM : sMai} {wO : sOut} {fu : Nat} {x1 : Int32} {x2 : Int32} {x3 : Int32} {uF0 : Int32} {uF1 : xF64} {uF2 : xF64} {uF3 : xF64} {uF4 : xF64} {uF5 : Int32} {uF6 : Int32} {uF7 : Int32} {uF8 : xF32} {uF9 : Int32} {uF10 : Int32} {uF11 : Int64} {uF12 : xF32} {uF13 : Int32} {uF14 : Int32} {uF15 : Int32} {uF16 : xF32} {uF17 : xF32} {uF18 : Int32} {rr : Int64} {yF0 : Int32} {yF1 : xF64} {yF3 : xF64} {yF4 : xF64} {yF5 : Int32} {yF7 : Int32} {yF11 : Int64} (hf : f_X8_settle fu x1 x2 x3 uF0 uF1 uF3 uF4 uF5 uF7 uF11 = some (rr, yF0, yF1, yF3, yF4, yF5, yF7, yF11)) : xMl l κ yX8_settle cX8_settle 4 (some .long) (xR 4 0 0) [.ref (xAd κ 245), .int x1, .int x2, .int x3] (wA, wT, wG, wM, (uF0, uF1, uF2, uF3, uF4, uF5, uF6, uF7, uF8, uF9, uF10, uF11, uF12, uF13, uF14, uF15, uF16, uF17, uF18), wO) (wA, wT, wG, wM, (yF0, yF1, uF2, yF3, yF4, yF5, uF6, yF7, uF8, uF9, uF10, yF11, uF12, uF13, uF14, uF15, uF16, uF17, uF18), wO) rr := by
  unfold f_X8_settle at hf
  refine xMl_of pn_X8 (Nat.le_of_ble_eq_true rfl) ⟨rfl, rfl⟩ ?_
  intro A p e s m args below meth c ls Q hc hw hl K
  have hc : xC κ A p s m args meth c cX8_settle RX8 4 (some .long) := hc
  have hx := hc.1.1
  have hb := hc.1.2.1
  have hl : lv_has ls 4 [(0, .ref (xAd κ 245)), (1, .int x1), (2, .int x2), (3, .int x3)] := hl
  refine lv_aload_n hx hb dX8_settle_0 rfl (lv_at hl 0 rfl) ?_
  obtain ⟨uF3_1, h2, hf⟩ := xb1_of hf
  refine x_callvV (As := []) (rest := []) (σ' := (wA, wT, wG, wM, (uF0, uF1, uF2, uF3_1, uF4, uF5, uF6, uF7, uF8, uF9, uF10, uF11, uF12, uF13, uF14, uF15, uF16, uF17, uF18), wO)) hc hw hl.1 (m_X8_remembers h2) kX8_76 co_245 rfl rfl ⟨rfl, rfl⟩ ⟨Nat.le_of_ble_eq_true rfl, Nat.le_of_ble_eq_true rfl⟩ ⟨Nat.zero_le _, Nat.zero_le _⟩ (Nat.le_of_ble_eq_true rfl) dX8_settle_1 (fun H locs hw => ?_)
  refine lv_aload_n hx hb dX8_settle_4 rfl (lv_at hl 0 rfl) ?_
  refine lv_aload_n hx hb dX8_settle_5 rfl (lv_at hl 0 rfl) ?_
  refine lv_iload_n hx hb dX8_settle_6 rfl (lv_at hl 1 rfl) ?_
  refine lv_iload_n hx hb dX8_settle_7 rfl (lv_at hl 2 rfl) ?_
  refine lv_iload_n hx hb dX8_settle_8 rfl (lv_at hl 3 rfl) ?_
  obtain ⟨v3, uF1_4, uF7_5, uF11_6, h7, hf⟩ := xb4_of hf
  refine x_calliV (As := [.int x1, .int x2, .int x3]) (rest := [.ref (xAd κ 245)]) (σ' := (wA, wT, wG, wM, (uF0, uF1_4, uF2, uF3_1, uF4, uF5, uF6, uF7_5, uF8, uF9, uF10, uF11_6, uF12, uF13, uF14, uF15, uF16, uF17, uF18), wO)) hc hw hl.1 (m_X8_settling h7) kX8_230 co_245 rfl rfl ⟨rfl, rfl⟩ ⟨Nat.le_of_ble_eq_true rfl, Nat.le_of_ble_eq_true rfl⟩ ⟨Nat.zero_le _, Nat.zero_le _⟩ (Nat.le_of_ble_eq_true rfl) dX8_settle_9 (fun H locs hw => ?_)
  obtain ⟨v8, uF0_9, uF4_10, uF5_11, h12, hf⟩ := xb4_of hf
  refine x_calllV (As := [.int v3]) (rest := []) (σ' := (wA, wT, wG, wM, (uF0_9, uF1_4, uF2, uF3_1, uF4_10, uF5_11, uF6, uF7_5, uF8, uF9, uF10, uF11_6, uF12, uF13, uF14, uF15, uF16, uF17, uF18), wO)) hc hw hl.1 (m_X8_ends h12) kX8_214 co_245 rfl rfl ⟨rfl, rfl⟩ ⟨Nat.le_of_ble_eq_true rfl, Nat.le_of_ble_eq_true rfl⟩ ⟨Nat.zero_le _, Nat.zero_le _⟩ (Nat.le_of_ble_eq_true rfl) dX8_settle_12 (fun H locs hw => ?_)
  cases hf
  exact K _ _ _ _ dX8_settle_15 hw
def f_X8_offset (fu : Nat) (x1 : Int32) (x2 : Int32) (uF0 : Int32) (uF1 : xF64) (uF3 : xF64) (uF4 : xF64) (uF5 : Int32) (uF7 : Int32) : Option (Int64 × Int32 × xF64 × xF64 × xF64 × Int32 × Int32) :=
  xb1 (f_X8_remembers fu uF1 uF3) fun uF3_1 => (xb1 (f_X8_isParty x1 uF1) fun v3 => (if v3 = 0 then (xb2 (f_X8_failsLong 1 0) fun v6 uF0_7 => (some (v6, uF0_7, uF1, uF3_1, uF4, uF5, uF7))) else (xb1 (f_X8_isParty x2 uF1) fun v9 => (if v9 = 0 then (xb2 (f_X8_failsLong 1 0) fun v38 uF0_39 => (some (v38, uF0_39, uF1, uF3_1, uF4, uF5, uF7))) else (if x1 = x2 then (xb2 (f_X8_failsLong 2 0) fun v35 uF0_36 => (some (v35, uF0_36, uF1, uF3_1, uF4, uF5, uF7))) else (xb1 (f_X8_owedBy fu x1 x2 uF1) fun v13 => (xb1 (f_X8_owedBy fu x2 x1 uF1) fun v15 => (xb1 (f_X8_least v13 v15) fun v17 => (if v17 = 0 then (xb2 (f_X8_refuses 5 uF7) fun v29 uF7_30 => (xb2 (f_X8_failsLong 3 0) fun v32 uF0_33 => (some (v32, uF0_33, uF1, uF3_1, uF4, uF5, uF7_30)))) else (xb1 (f_X8_pays fu x1 x2 v17 uF1) fun uF1_20 => (xb1 (f_X8_pays fu x2 x1 v17 uF1_20) fun uF1_22 => (xb1 (f_X8_notes fu 9 v17 uF1_22) fun uF1_24 => (xb2 (f_X8_keeps fu uF3_1 uF4 uF5) fun uF4_26 uF5_27 => (some (v17, 0, uF1_24, uF3_1, uF4_26, uF5_27, uF7)))))))))))))))
set_option maxHeartbeats 4000000 in
set_option maxRecDepth 100000 in
theorem m_X8_offset {l : Launch} {κ : xKt} {wA : Nat → sAcc} {wT : sTxt} {wG : sRng} {wM : sMai} {wO : sOut} {fu : Nat} {x1 : Int32} {x2 : Int32} {uF0 : Int32} {uF1 : xF64} {uF2 : xF64} {uF3 : xF64} {uF4 : xF64} {uF5 : Int32} {uF6 : Int32} {uF7 : Int32} {uF8 : xF32} {uF9 : Int32} {uF10 : Int32} {uF11 : Int64} {uF12 : xF32} {uF13 : Int32} {uF14 : Int32} {uF15 : Int32} {uF16 : xF32} {uF17 : xF32} {uF18 : Int32} {rr : Int64} {yF0 : Int32} {yF1 : xF64} {yF3 : xF64} {yF4 : xF64} {yF5 : Int32} {yF7 : Int32} (hf : f_X8_offset fu x1 x2 uF0 uF1 uF3 uF4 uF5 uF7 = some (rr, yF0, yF1, yF3, yF4, yF5, yF7)) : xMl l κ yX8_offset cX8_offset 5 (some .long) (xR 3 0 0) [.ref (xAd κ 245), .int x1, .int x2] (wA, wT, wG, wM, (uF0, uF1, uF2, uF3, uF4, uF5, uF6, uF7, uF8, uF9, uF10, uF11, uF12, uF13, uF14, uF15, uF16, uF17, uF18), wO) (wA, wT, wG, wM, (yF0, yF1, uF2, yF3, yF4, yF5, uF6, yF7, uF8, uF9, uF10, uF11, uF12, uF13, uF14, uF15, uF16, uF17, uF18), wO) rr := by
  unfold f_X8_offset at hf
  refine xMl_of pn_X8 (Nat.le_of_ble_eq_true rfl) ⟨rfl, rfl⟩ ?_
  intro A p e s m args below meth c ls Q hc hw hl K
  have hc : xC κ A p s m args meth c cX8_offset RX8 5 (some .long) := hc
  have hx := hc.1.1
  have hb := hc.1.2.1
  have hl : lv_has ls 5 [(0, .ref (xAd κ 245)), (1, .int x1), (2, .int x2)] := hl
  refine lv_aload_n hx hb dX8_offset_0 rfl (lv_at hl 0 rfl) ?_
  refine lv_iconst (v := 0) hx hb dX8_offset_1 (by decide) ?_
  refine x_put (σ' := (wA, wT, wG, wM, (0, uF1, uF2, uF3, uF4, uF5, uF6, uF7, uF8, uF9, uF10, uF11, uF12, uF13, uF14, uF15, uF16, uF17, uF18), wO)) hc hw co_245 fX8_42 rfl rfl (Nat.le_of_ble_eq_true rfl) so_F_0 dX8_offset_2 (fun H locs hw => ?_)
  refine lv_aload_n hx hb dX8_offset_5 rfl (lv_at hl 0 rfl) ?_
  obtain ⟨uF3_1, h2, hf⟩ := xb1_of hf
  refine x_callvV (As := []) (rest := []) (σ' := (wA, wT, wG, wM, (0, uF1, uF2, uF3_1, uF4, uF5, uF6, uF7, uF8, uF9, uF10, uF11, uF12, uF13, uF14, uF15, uF16, uF17, uF18), wO)) hc hw hl.1 (m_X8_remembers h2) kX8_76 co_245 rfl rfl ⟨rfl, rfl⟩ ⟨Nat.le_of_ble_eq_true rfl, Nat.le_of_ble_eq_true rfl⟩ ⟨Nat.zero_le _, Nat.zero_le _⟩ (Nat.le_of_ble_eq_true rfl) dX8_offset_6 (fun H locs hw => ?_)
  refine lv_aload_n hx hb dX8_offset_9 rfl (lv_at hl 0 rfl) ?_
  refine lv_iload_n hx hb dX8_offset_10 rfl (lv_at hl 1 rfl) ?_
  obtain ⟨v3, h4, hf⟩ := xb1_of hf
  refine x_calliV (As := [.int x1]) (rest := []) (σ' := (wA, wT, wG, wM, (0, uF1, uF2, uF3_1, uF4, uF5, uF6, uF7, uF8, uF9, uF10, uF11, uF12, uF13, uF14, uF15, uF16, uF17, uF18), wO)) hc hw hl.1 (m_X8_isParty h4) kX8_149 co_245 rfl rfl ⟨rfl, rfl⟩ ⟨Nat.le_of_ble_eq_true rfl, Nat.le_of_ble_eq_true rfl⟩ ⟨Nat.zero_le _, Nat.zero_le _⟩ (Nat.le_of_ble_eq_true rfl) dX8_offset_11 (fun H locs hw => ?_)
  refine lv_if_eq (tgt := 25) hx hb dX8_offset_14 (by decide) (fun c5 => ?_) (fun c5 => ?_)
  · have hf := xif_t c5 hf
    refine lv_aload_n hx hb dX8_offset_25 rfl (lv_at hl 0 rfl) ?_
    refine lv_iconst (v := 1) hx hb dX8_offset_26 (by decide) ?_
    obtain ⟨v6, uF0_7, h8, hf⟩ := xb2_of hf
    refine x_calllV (As := [.int 1]) (rest := []) (σ' := (wA, wT, wG, wM, (uF0_7, uF1, uF2, uF3_1, uF4, uF5, uF6, uF7, uF8, uF9, uF10, uF11, uF12, uF13, uF14, uF15, uF16, uF17, uF18), wO)) hc hw hl.1 (m_X8_failsLong h8) kX8_153 co_245 rfl rfl ⟨rfl, rfl⟩ ⟨Nat.le_of_ble_eq_true rfl, Nat.le_of_ble_eq_true rfl⟩ ⟨Nat.zero_le _, Nat.zero_le _⟩ (Nat.le_of_ble_eq_true rfl) dX8_offset_27 (fun H locs hw => ?_)
    cases hf
    exact K _ _ _ _ dX8_offset_30 hw
  · have hf := xif_f c5 hf
    refine lv_aload_n hx hb dX8_offset_17 rfl (lv_at hl 0 rfl) ?_
    refine lv_iload_n hx hb dX8_offset_18 rfl (lv_at hl 2 rfl) ?_
    obtain ⟨v9, h10, hf⟩ := xb1_of hf
    refine x_calliV (As := [.int x2]) (rest := []) (σ' := (wA, wT, wG, wM, (0, uF1, uF2, uF3_1, uF4, uF5, uF6, uF7, uF8, uF9, uF10, uF11, uF12, uF13, uF14, uF15, uF16, uF17, uF18), wO)) hc hw hl.1 (m_X8_isParty h10) kX8_149 co_245 rfl rfl ⟨rfl, rfl⟩ ⟨Nat.le_of_ble_eq_true rfl, Nat.le_of_ble_eq_true rfl⟩ ⟨Nat.zero_le _, Nat.zero_le _⟩ (Nat.le_of_ble_eq_true rfl) dX8_offset_19 (fun H locs hw => ?_)
    refine lv_if_ne (tgt := 31) hx hb dX8_offset_22 (by decide) (fun c11 => ?_) (fun c11 => ?_)
    · have hf := xif_f c11 hf
      refine lv_iload_n hx hb dX8_offset_31 rfl (lv_at hl 1 rfl) ?_
      refine lv_iload_n hx hb dX8_offset_32 rfl (lv_at hl 2 rfl) ?_
      refine lv_icmp_ne (tgt := 42) hx hb dX8_offset_33 (by decide) (fun c12 => ?_) (fun c12 => ?_)
      · have hf := xif_f c12 hf
        refine lv_aload_n hx hb dX8_offset_42 rfl (lv_at hl 0 rfl) ?_
        refine lv_iload_n hx hb dX8_offset_43 rfl (lv_at hl 1 rfl) ?_
        refine lv_iload_n hx hb dX8_offset_44 rfl (lv_at hl 2 rfl) ?_
        obtain ⟨v13, h14, hf⟩ := xb1_of hf
        refine x_calllV (As := [.int x1, .int x2]) (rest := []) (σ' := (wA, wT, wG, wM, (0, uF1, uF2, uF3_1, uF4, uF5, uF6, uF7, uF8, uF9, uF10, uF11, uF12, uF13, uF14, uF15, uF16, uF17, uF18), wO)) hc hw hl.1 (m_X8_owedBy h14) kX8_196 co_245 rfl rfl ⟨rfl, rfl⟩ ⟨Nat.le_of_ble_eq_true rfl, Nat.le_of_ble_eq_true rfl⟩ ⟨Nat.zero_le _, Nat.zero_le _⟩ (Nat.le_of_ble_eq_true rfl) dX8_offset_45 (fun H locs hw => ?_)
        refine lv_aload_n hx hb dX8_offset_48 rfl (lv_at hl 0 rfl) ?_
        refine lv_iload_n hx hb dX8_offset_49 rfl (lv_at hl 2 rfl) ?_
        refine lv_iload_n hx hb dX8_offset_50 rfl (lv_at hl 1 rfl) ?_
        obtain ⟨v15, h16, hf⟩ := xb1_of hf
        refine x_calllV (As := [.int x2, .int x1]) (rest := [.long v13]) (σ' := (wA, wT, wG, wM, (0, uF1, uF2, uF3_1, uF4, uF5, uF6, uF7, uF8, uF9, uF10, uF11, uF12, uF13, uF14, uF15, uF16, uF17, uF18), wO)) hc hw hl.1 (m_X8_owedBy h16) kX8_196 co_245 rfl rfl ⟨rfl, rfl⟩ ⟨Nat.le_of_ble_eq_true rfl, Nat.le_of_ble_eq_true rfl⟩ ⟨Nat.zero_le _, Nat.zero_le _⟩ (Nat.le_of_ble_eq_true rfl) dX8_offset_51 (fun H locs hw => ?_)
        obtain ⟨v17, h18, hf⟩ := xb1_of hf
        refine x_calllS (As := [.long v13, .long v15]) (rest := []) (σ' := (wA, wT, wG, wM, (0, uF1, uF2, uF3_1, uF4, uF5, uF6, uF7, uF8, uF9, uF10, uF11, uF12, uF13, uF14, uF15, uF16, uF17, uF18), wO)) hc hw hl.1 (m_X8_least h18) kX8_99 rfl rfl ⟨rfl, rfl⟩ ⟨Nat.le_of_ble_eq_true rfl, Nat.le_of_ble_eq_true rfl⟩ ⟨Nat.zero_le _, Nat.zero_le _⟩ (Nat.le_of_ble_eq_true rfl) dX8_offset_54 (fun H locs hw => ?_)
        refine lv_lstore_n (lv' := [(3, .long v17), (0, .ref (xAd κ 245)), (1, .int x1), (2, .int x2)]) hx hb dX8_offset_57 rfl hl (by decide) rfl (fun ls hl => ?_)
        refine lv_lload_n hx hb dX8_offset_58 rfl (lv_at hl 0 rfl) ?_
        refine lv_lconst (v := 0) hx hb dX8_offset_59 (by decide) ?_
        refine x_lcmp_ne (tgt := 76) hx hb dX8_offset_60 dX8_offset_61 (by decide) (fun c19 => ?_) (fun c19 => ?_)
        · have hf := xif_f c19 hf
          refine lv_aload_n hx hb dX8_offset_76 rfl (lv_at hl 1 rfl) ?_
          refine lv_iload_n hx hb dX8_offset_77 rfl (lv_at hl 2 rfl) ?_
          refine lv_iload_n hx hb dX8_offset_78 rfl (lv_at hl 3 rfl) ?_
          refine lv_lload_n hx hb dX8_offset_79 rfl (lv_at hl 0 rfl) ?_
          obtain ⟨uF1_20, h21, hf⟩ := xb1_of hf
          refine x_callvV (As := [.int x1, .int x2, .long v17]) (rest := []) (σ' := (wA, wT, wG, wM, (0, uF1_20, uF2, uF3_1, uF4, uF5, uF6, uF7, uF8, uF9, uF10, uF11, uF12, uF13, uF14, uF15, uF16, uF17, uF18), wO)) hc hw hl.1 (m_X8_pays h21) kX8_200 co_245 rfl rfl ⟨rfl, rfl⟩ ⟨Nat.le_of_ble_eq_true rfl, Nat.le_of_ble_eq_true rfl⟩ ⟨Nat.zero_le _, Nat.zero_le _⟩ (Nat.le_of_ble_eq_true rfl) dX8_offset_80 (fun H locs hw => ?_)
          refine lv_aload_n hx hb dX8_offset_83 rfl (lv_at hl 1 rfl) ?_
          refine lv_iload_n hx hb dX8_offset_84 rfl (lv_at hl 3 rfl) ?_
          refine lv_iload_n hx hb dX8_offset_85 rfl (lv_at hl 2 rfl) ?_
          refine lv_lload_n hx hb dX8_offset_86 rfl (lv_at hl 0 rfl) ?_
          obtain ⟨uF1_22, h23, hf⟩ := xb1_of hf
          refine x_callvV (As := [.int x2, .int x1, .long v17]) (rest := []) (σ' := (wA, wT, wG, wM, (0, uF1_22, uF2, uF3_1, uF4, uF5, uF6, uF7, uF8, uF9, uF10, uF11, uF12, uF13, uF14, uF15, uF16, uF17, uF18), wO)) hc hw hl.1 (m_X8_pays h23) kX8_200 co_245 rfl rfl ⟨rfl, rfl⟩ ⟨Nat.le_of_ble_eq_true rfl, Nat.le_of_ble_eq_true rfl⟩ ⟨Nat.zero_le _, Nat.zero_le _⟩ (Nat.le_of_ble_eq_true rfl) dX8_offset_87 (fun H locs hw => ?_)
          refine lv_aload_n hx hb dX8_offset_90 rfl (lv_at hl 1 rfl) ?_
          refine lv_bipush (v := 9) hx hb dX8_offset_91 (by decide) ?_
          refine lv_lload_n hx hb dX8_offset_93 rfl (lv_at hl 0 rfl) ?_
          obtain ⟨uF1_24, h25, hf⟩ := xb1_of hf
          refine x_callvV (As := [.int 9, .long v17]) (rest := []) (σ' := (wA, wT, wG, wM, (0, uF1_24, uF2, uF3_1, uF4, uF5, uF6, uF7, uF8, uF9, uF10, uF11, uF12, uF13, uF14, uF15, uF16, uF17, uF18), wO)) hc hw hl.1 (m_X8_notes h25) kX8_192 co_245 rfl rfl ⟨rfl, rfl⟩ ⟨Nat.le_of_ble_eq_true rfl, Nat.le_of_ble_eq_true rfl⟩ ⟨Nat.zero_le _, Nat.zero_le _⟩ (Nat.le_of_ble_eq_true rfl) dX8_offset_94 (fun H locs hw => ?_)
          refine lv_aload_n hx hb dX8_offset_97 rfl (lv_at hl 1 rfl) ?_
          obtain ⟨uF4_26, uF5_27, h28, hf⟩ := xb2_of hf
          refine x_callvV (As := []) (rest := []) (σ' := (wA, wT, wG, wM, (0, uF1_24, uF2, uF3_1, uF4_26, uF5_27, uF6, uF7, uF8, uF9, uF10, uF11, uF12, uF13, uF14, uF15, uF16, uF17, uF18), wO)) hc hw hl.1 (m_X8_keeps h28) kX8_83 co_245 rfl rfl ⟨rfl, rfl⟩ ⟨Nat.le_of_ble_eq_true rfl, Nat.le_of_ble_eq_true rfl⟩ ⟨Nat.zero_le _, Nat.zero_le _⟩ (Nat.le_of_ble_eq_true rfl) dX8_offset_98 (fun H locs hw => ?_)
          refine lv_lload_n hx hb dX8_offset_101 rfl (lv_at hl 0 rfl) ?_
          cases hf
          exact K _ _ _ _ dX8_offset_102 hw
        · have hf := xif_t c19 hf
          refine lv_aload_n hx hb dX8_offset_64 rfl (lv_at hl 1 rfl) ?_
          refine lv_iconst (v := 5) hx hb dX8_offset_65 (by decide) ?_
          obtain ⟨v29, uF7_30, h31, hf⟩ := xb2_of hf
          refine x_calliV (As := [.int 5]) (rest := []) (σ' := (wA, wT, wG, wM, (0, uF1, uF2, uF3_1, uF4, uF5, uF6, uF7_30, uF8, uF9, uF10, uF11, uF12, uF13, uF14, uF15, uF16, uF17, uF18), wO)) hc hw hl.1 (m_X8_refuses h31) kX8_182 co_245 rfl rfl ⟨rfl, rfl⟩ ⟨Nat.le_of_ble_eq_true rfl, Nat.le_of_ble_eq_true rfl⟩ ⟨Nat.zero_le _, Nat.zero_le _⟩ (Nat.le_of_ble_eq_true rfl) dX8_offset_66 (fun H locs hw => ?_)
          refine lv_pop hx hb dX8_offset_69 rfl ?_
          refine lv_aload_n hx hb dX8_offset_70 rfl (lv_at hl 1 rfl) ?_
          refine lv_iconst (v := 3) hx hb dX8_offset_71 (by decide) ?_
          obtain ⟨v32, uF0_33, h34, hf⟩ := xb2_of hf
          refine x_calllV (As := [.int 3]) (rest := []) (σ' := (wA, wT, wG, wM, (uF0_33, uF1, uF2, uF3_1, uF4, uF5, uF6, uF7_30, uF8, uF9, uF10, uF11, uF12, uF13, uF14, uF15, uF16, uF17, uF18), wO)) hc hw hl.1 (m_X8_failsLong h34) kX8_153 co_245 rfl rfl ⟨rfl, rfl⟩ ⟨Nat.le_of_ble_eq_true rfl, Nat.le_of_ble_eq_true rfl⟩ ⟨Nat.zero_le _, Nat.zero_le _⟩ (Nat.le_of_ble_eq_true rfl) dX8_offset_72 (fun H locs hw => ?_)
          cases hf
          exact K _ _ _ _ dX8_offset_75 hw
      · have hf := xif_t c12 hf
        refine lv_aload_n hx hb dX8_offset_36 rfl (lv_at hl 0 rfl) ?_
        refine lv_iconst (v := 2) hx hb dX8_offset_37 (by decide) ?_
        obtain ⟨v35, uF0_36, h37, hf⟩ := xb2_of hf
        refine x_calllV (As := [.int 2]) (rest := []) (σ' := (wA, wT, wG, wM, (uF0_36, uF1, uF2, uF3_1, uF4, uF5, uF6, uF7, uF8, uF9, uF10, uF11, uF12, uF13, uF14, uF15, uF16, uF17, uF18), wO)) hc hw hl.1 (m_X8_failsLong h37) kX8_153 co_245 rfl rfl ⟨rfl, rfl⟩ ⟨Nat.le_of_ble_eq_true rfl, Nat.le_of_ble_eq_true rfl⟩ ⟨Nat.zero_le _, Nat.zero_le _⟩ (Nat.le_of_ble_eq_true rfl) dX8_offset_38 (fun H locs hw => ?_)
        cases hf
        exact K _ _ _ _ dX8_offset_41 hw
    · have hf := xif_t c11 hf
      refine lv_aload_n hx hb dX8_offset_25 rfl (lv_at hl 0 rfl) ?_
      refine lv_iconst (v := 1) hx hb dX8_offset_26 (by decide) ?_
      obtain ⟨v38, uF0_39, h40, hf⟩ := xb2_of hf
      refine x_calllV (As := [.int 1]) (rest := []) (σ' := (wA, wT, wG, wM, (uF0_39, uF1, uF2, uF3_1, uF4, uF5, uF6, uF7, uF8, uF9, uF10, uF11, uF12, uF13, uF14, uF15, uF16, uF17, uF18), wO)) hc hw hl.1 (m_X8_failsLong h40) kX8_153 co_245 rfl rfl ⟨rfl, rfl⟩ ⟨Nat.le_of_ble_eq_true rfl, Nat.le_of_ble_eq_true rfl⟩ ⟨Nat.zero_le _, Nat.zero_le _⟩ (Nat.le_of_ble_eq_true rfl) dX8_offset_27 (fun H locs hw => ?_)
      cases hf
      exact K _ _ _ _ dX8_offset_30 hw
def f_X8_isNew_19 (fu : Nat) (uF12 : xF32) : Nat → (Int32) → (Int32) → (Int32) → (Int32) → Option Int32
  | 0, _, _, _, _ => none
  | n + 1, x1, x2, x3, x4 => if x1 ≤ x4 then (xk (xisb x3) (some x3)) else (if x3 = 0 then (f_X8_isNew_19 fu uF12 n x1 x2 0 (x4 + 1)) else (xk (xin x4 6) (if (uF12 x4.toNatClampNeg) = x2 then (f_X8_isNew_19 fu uF12 n x1 x2 0 (x4 + 1)) else (f_X8_isNew_19 fu uF12 n x1 x2 1 (x4 + 1)))))
def f_X8_isNew (fu : Nat) (x1 : Int32) (x2 : Int32) (uF12 : xF32) : Option Int32 :=
  xk (xin 0 6) (if x2 ≤ (uF12 (0 : Int32).toNatClampNeg) then (f_X8_isNew_19 fu uF12 fu x1 x2 0 0) else (f_X8_isNew_19 fu uF12 fu x1 x2 1 0))
set_option maxHeartbeats 4000000 in
set_option maxRecDepth 100000 in
theorem l_X8_isNew_19 {l : Launch} {κ : xKt} {wA : Nat → sAcc} {wT : sTxt} {wG : sRng} {wM : sMai} {wO : sOut} {fu : Nat} {uF0 : Int32} {uF1 : xF64} {uF2 : xF64} {uF3 : xF64} {uF4 : xF64} {uF5 : Int32} {uF6 : Int32} {uF7 : Int32} {uF8 : xF32} {uF9 : Int32} {uF10 : Int32} {uF11 : Int64} {uF12 : xF32} {uF13 : Int32} {uF14 : Int32} {uF15 : Int32} {uF16 : xF32} {uF17 : xF32} {uF18 : Int32} {A : Nat → Prop} {p : Program} {e : Env} {s : State} {m : MethodId} {args : Array Value} {below : List Frame} {meth : Method} {c : Code} {Q : State → Prop} {rr : Int32}
    (hc : xC κ A p s m args meth c cX8_isNew RX8 5 (some .boolean))
    (K : ∀ (pc : Nat) (ls : Array Slot) (H : Heap) (locs : List Loc), decode cX8_isNew pc = .ok (.ireturn, 1) → narrow .boolean (.int rr) = .int rr → xW κ A s (wA, wT, wG, wM, (uF0, uF1, uF2, uF3, uF4, uF5, uF6, uF7, uF8, uF9, uF10, uF11, uF12, uF13, uF14, uF15, uF16, uF17, uF18), wO) H locs → W p l e (xR 0 0 0) s m args below meth c H locs 0 0 Q (F0 m pc ls [.int rr])) :
    ∀ (n : Nat) (x1 : Int32) (x2 : Int32) (x3 : Int32) (x4 : Int32) (H : Heap) (locs : List Loc) (ls : Array Slot), f_X8_isNew_19 fu uF12 n x1 x2 x3 x4 = some rr → xW κ A s (wA, wT, wG, wM, (uF0, uF1, uF2, uF3, uF4, uF5, uF6, uF7, uF8, uF9, uF10, uF11, uF12, uF13, uF14, uF15, uF16, uF17, uF18), wO) H locs → lv_has ls 5 [(0, .ref (xAd κ 245)), (1, .int x1), (2, .int x2), (3, .int x3), (4, .int x4)] → W p l e (xR 0 0 0) s m args below meth c H locs 0 0 Q (F0 m 19 ls []) := by
  have hx := hc.1.1
  have hb := hc.1.2.1
  intro n
  induction n with
  | zero =>
    intro x1 x2 x3 x4 H locs ls hf
    rw [f_X8_isNew_19] at hf
    cases hf
  | succ n hi =>
    intro x1 x2 x3 x4 H locs ls hf hw hl
    rw [f_X8_isNew_19] at hf
    refine lv_iload hx hb dX8_isNew_19 (lv_at hl 4 rfl) ?_
    refine lv_iload_n hx hb dX8_isNew_21 rfl (lv_at hl 1 rfl) ?_
    refine lv_icmp_ge (tgt := 52) hx hb dX8_isNew_22 (by decide) (fun c3 => ?_) (fun c3 => ?_)
    · have hf := xif_t c3 hf
      refine lv_iload_n hx hb dX8_isNew_52 rfl (lv_at hl 3 rfl) ?_
      obtain ⟨k4, hf⟩ := xk_of hf
      cases hf
      exact K _ _ _ _ dX8_isNew_53 (xisb_n k4).1 hw
    · have hf := xif_f c3 hf
      refine lv_iload_n hx hb dX8_isNew_25 rfl (lv_at hl 3 rfl) ?_
      refine lv_if_eq (tgt := 44) hx hb dX8_isNew_26 (by decide) (fun c5 => ?_) (fun c5 => ?_)
      · have hf := xif_t c5 hf
        refine lv_iconst (v := 0) hx hb dX8_isNew_44 (by decide) ?_
        refine lv_istore_n (lv' := [(3, .int 0), (0, .ref (xAd κ 245)), (1, .int x1), (2, .int x2), (4, .int x4)]) hx hb dX8_isNew_45 rfl hl (by decide) rfl (fun ls hl => ?_)
        refine lv_iinc (v := (x4 + 1)) (lv' := [(4, .int (x4 + 1)), (3, .int 0), (0, .ref (xAd κ 245)), (1, .int x1), (2, .int x2)]) hx hb dX8_isNew_46 hl (k := 4) rfl rfl (by decide) rfl (fun ls hl => ?_)
        refine lv_goto (tgt := 19) hx hb dX8_isNew_49 (by decide) ?_
        exact hi _ _ _ _ _ _ _ hf hw (lv_sub hl [2, 3, 4, 1, 0] rfl)
      · have hf := xif_f c5 hf
        refine lv_aload_n hx hb dX8_isNew_29 rfl (lv_at hl 0 rfl) ?_
        refine x_get (v := .ref (xAd κ 251)) hc hw co_245 fX8_30 rfl dX8_isNew_30 ?_
        refine lv_iload hx hb dX8_isNew_33 (lv_at hl 4 rfl) ?_
        obtain ⟨k6, hf⟩ := xk_of hf
        refine x_iald (n := 6) (f := uF12) hc hw co_251 k6 dX8_isNew_35 ?_
        refine lv_iload_n hx hb dX8_isNew_36 rfl (lv_at hl 2 rfl) ?_
        refine lv_icmp_eq (tgt := 44) hx hb dX8_isNew_37 (by decide) (fun c7 => ?_) (fun c7 => ?_)
        · have hf := xif_t c7 hf
          refine lv_iconst (v := 0) hx hb dX8_isNew_44 (by decide) ?_
          refine lv_istore_n (lv' := [(3, .int 0), (0, .ref (xAd κ 245)), (1, .int x1), (2, .int x2), (4, .int x4)]) hx hb dX8_isNew_45 rfl hl (by decide) rfl (fun ls hl => ?_)
          refine lv_iinc (v := (x4 + 1)) (lv' := [(4, .int (x4 + 1)), (3, .int 0), (0, .ref (xAd κ 245)), (1, .int x1), (2, .int x2)]) hx hb dX8_isNew_46 hl (k := 4) rfl rfl (by decide) rfl (fun ls hl => ?_)
          refine lv_goto (tgt := 19) hx hb dX8_isNew_49 (by decide) ?_
          exact hi _ _ _ _ _ _ _ hf hw (lv_sub hl [2, 3, 4, 1, 0] rfl)
        · have hf := xif_f c7 hf
          refine lv_iconst (v := 1) hx hb dX8_isNew_40 (by decide) ?_
          refine lv_goto (tgt := 45) hx hb dX8_isNew_41 (by decide) ?_
          refine lv_istore_n (lv' := [(3, .int 1), (0, .ref (xAd κ 245)), (1, .int x1), (2, .int x2), (4, .int x4)]) hx hb dX8_isNew_45 rfl hl (by decide) rfl (fun ls hl => ?_)
          refine lv_iinc (v := (x4 + 1)) (lv' := [(4, .int (x4 + 1)), (3, .int 1), (0, .ref (xAd κ 245)), (1, .int x1), (2, .int x2)]) hx hb dX8_isNew_46 hl (k := 4) rfl rfl (by decide) rfl (fun ls hl => ?_)
          refine lv_goto (tgt := 19) hx hb dX8_isNew_49 (by decide) ?_
          exact hi _ _ _ _ _ _ _ hf hw (lv_sub hl [2, 3, 4, 1, 0] rfl)
set_option maxHeartbeats 4000000 in
set_option maxRecDepth 100000 in
theorem m_X8_isNew {l : Launch} {κ : xKt} {wA : Nat → sAcc} {wT : sTxt} {wG : sRng} {wM : sMai} {wO : sOut} {fu : Nat} {x1 : Int32} {x2 : Int32} {uF0 : Int32} {uF1 : xF64} {uF2 : xF64} {uF3 : xF64} {uF4 : xF64} {uF5 : Int32} {uF6 : Int32} {uF7 : Int32} {uF8 : xF32} {uF9 : Int32} {uF10 : Int32} {uF11 : Int64} {uF12 : xF32} {uF13 : Int32} {uF14 : Int32} {uF15 : Int32} {uF16 : xF32} {uF17 : xF32} {uF18 : Int32} {rr : Int32} (hf : f_X8_isNew fu x1 x2 uF12 = some rr) : xMi l κ yX8_isNew cX8_isNew 5 (some .boolean) (xR 0 0 0) [.ref (xAd κ 245), .int x1, .int x2] (wA, wT, wG, wM, (uF0, uF1, uF2, uF3, uF4, uF5, uF6, uF7, uF8, uF9, uF10, uF11, uF12, uF13, uF14, uF15, uF16, uF17, uF18), wO) (wA, wT, wG, wM, (uF0, uF1, uF2, uF3, uF4, uF5, uF6, uF7, uF8, uF9, uF10, uF11, uF12, uF13, uF14, uF15, uF16, uF17, uF18), wO) rr := by
  unfold f_X8_isNew at hf
  refine xMi_of pn_X8 (Nat.le_of_ble_eq_true rfl) ⟨rfl, rfl⟩ ?_
  intro A p e s m args below meth c ls Q hc hw hl K
  have hc : xC κ A p s m args meth c cX8_isNew RX8 5 (some .boolean) := hc
  have hx := hc.1.1
  have hb := hc.1.2.1
  have hl : lv_has ls 5 [(0, .ref (xAd κ 245)), (1, .int x1), (2, .int x2)] := hl
  refine lv_iload_n hx hb dX8_isNew_0 rfl (lv_at hl 2 rfl) ?_
  refine lv_aload_n hx hb dX8_isNew_1 rfl (lv_at hl 0 rfl) ?_
  refine x_get (v := .ref (xAd κ 251)) hc hw co_245 fX8_30 rfl dX8_isNew_2 ?_
  refine lv_iconst (v := 0) hx hb dX8_isNew_5 (by decide) ?_
  obtain ⟨k1, hf⟩ := xk_of hf
  refine x_iald (n := 6) (f := uF12) hc hw co_251 k1 dX8_isNew_6 ?_
  refine lv_icmp_le (tgt := 14) hx hb dX8_isNew_7 (by decide) (fun c2 => ?_) (fun c2 => ?_)
  · have hf := xif_t c2 hf
    refine lv_iconst (v := 0) hx hb dX8_isNew_14 (by decide) ?_
    refine lv_istore_n (lv' := [(3, .int 0), (0, .ref (xAd κ 245)), (1, .int x1), (2, .int x2)]) hx hb dX8_isNew_15 rfl hl (by decide) rfl (fun ls hl => ?_)
    refine lv_iconst (v := 0) hx hb dX8_isNew_16 (by decide) ?_
    refine lv_istore (lv' := [(4, .int 0), (3, .int 0), (0, .ref (xAd κ 245)), (1, .int x1), (2, .int x2)]) hx hb dX8_isNew_17 hl (by decide) rfl (fun ls hl => ?_)
    exact l_X8_isNew_19 hc K fu _ _ _ _ _ _ _ hf hw (lv_sub hl [2, 3, 4, 1, 0] rfl)
  · have hf := xif_f c2 hf
    refine lv_iconst (v := 1) hx hb dX8_isNew_10 (by decide) ?_
    refine lv_goto (tgt := 15) hx hb dX8_isNew_11 (by decide) ?_
    refine lv_istore_n (lv' := [(3, .int 1), (0, .ref (xAd κ 245)), (1, .int x1), (2, .int x2)]) hx hb dX8_isNew_15 rfl hl (by decide) rfl (fun ls hl => ?_)
    refine lv_iconst (v := 0) hx hb dX8_isNew_16 (by decide) ?_
    refine lv_istore (lv' := [(4, .int 0), (3, .int 1), (0, .ref (xAd κ 245)), (1, .int x1), (2, .int x2)]) hx hb dX8_isNew_17 hl (by decide) rfl (fun ls hl => ?_)
    exact l_X8_isNew_19 hc K fu _ _ _ _ _ _ _ hf hw (lv_sub hl [2, 3, 4, 1, 0] rfl)
def f_X8_nextAt_4 (fu : Nat) (uF1 : xF64) (uF12 : xF32) : Nat → (Int32) → (Int32) → Option Int32
  | 0, _, _ => none
  | n + 1, x1, x3 => xb1 (f_X8_parties uF1) fun v1 => (if v1 ≤ x3 then (some ((-1))) else (if x1 = 0 then (some x3) else (xb1 (f_X8_isNew fu x1 x3 uF12) fun v5 => (if v5 = 0 then (f_X8_nextAt_4 fu uF1 uF12 n x1 (x3 + 1)) else (xk (xin (x1 - 1) 6) (xb1 (f_X8_owedBy fu (uF12 (x1 - 1).toNatClampNeg) x3 uF1) fun v9 => (if v9 ≤ 0 then (f_X8_nextAt_4 fu uF1 uF12 n x1 (x3 + 1)) else (some x3))))))))
def f_X8_nextAt (fu : Nat) (x1 : Int32) (x2 : Int32) (uF1 : xF64) (uF12 : xF32) : Option Int32 :=
  f_X8_nextAt_4 fu uF1 uF12 fu x1 (x2 + 1)
set_option maxHeartbeats 4000000 in
set_option maxRecDepth 100000 in
theorem l_X8_nextAt_4 {l : Launch} {κ : xKt} {wA : Nat → sAcc} {wT : sTxt} {wG : sRng} {wM : sMai} {wO : sOut} {fu : Nat} {uF0 : Int32} {uF1 : xF64} {uF2 : xF64} {uF3 : xF64} {uF4 : xF64} {uF5 : Int32} {uF6 : Int32} {uF7 : Int32} {uF8 : xF32} {uF9 : Int32} {uF10 : Int32} {uF11 : Int64} {uF12 : xF32} {uF13 : Int32} {uF14 : Int32} {uF15 : Int32} {uF16 : xF32} {uF17 : xF32} {uF18 : Int32} {A : Nat → Prop} {p : Program} {e : Env} {s : State} {m : MethodId} {args : Array Value} {below : List Frame} {meth : Method} {c : Code} {Q : State → Prop} {rr : Int32}
    (hc : xC κ A p s m args meth c cX8_nextAt RX8 4 (some .int))
    (K : ∀ (pc : Nat) (ls : Array Slot) (H : Heap) (locs : List Loc), decode cX8_nextAt pc = .ok (.ireturn, 1) → narrow .int (.int rr) = .int rr → xW κ A s (wA, wT, wG, wM, (uF0, uF1, uF2, uF3, uF4, uF5, uF6, uF7, uF8, uF9, uF10, uF11, uF12, uF13, uF14, uF15, uF16, uF17, uF18), wO) H locs → W p l e (xR 3 0 0) s m args below meth c H locs 0 0 Q (F0 m pc ls [.int rr])) :
    ∀ (n : Nat) (x1 : Int32) (x3 : Int32) (H : Heap) (locs : List Loc) (ls : Array Slot), f_X8_nextAt_4 fu uF1 uF12 n x1 x3 = some rr → xW κ A s (wA, wT, wG, wM, (uF0, uF1, uF2, uF3, uF4, uF5, uF6, uF7, uF8, uF9, uF10, uF11, uF12, uF13, uF14, uF15, uF16, uF17, uF18), wO) H locs → lv_has ls 4 [(0, .ref (xAd κ 245)), (1, .int x1), (3, .int x3)] → W p l e (xR 3 0 0) s m args below meth c H locs 0 0 Q (F0 m 4 ls []) := by
  have hx := hc.1.1
  have hb := hc.1.2.1
  intro n
  induction n with
  | zero =>
    intro x1 x3 H locs ls hf
    rw [f_X8_nextAt_4] at hf
    cases hf
  | succ n hi =>
    intro x1 x3 H locs ls hf hw hl
    rw [f_X8_nextAt_4] at hf
    refine lv_iload_n hx hb dX8_nextAt_4 rfl (lv_at hl 2 rfl) ?_
    refine lv_aload_n hx hb dX8_nextAt_5 rfl (lv_at hl 0 rfl) ?_
    obtain ⟨v1, h2, hf⟩ := xb1_of hf
    refine x_calliV (As := []) (rest := [.int x3]) (σ' := (wA, wT, wG, wM, (uF0, uF1, uF2, uF3, uF4, uF5, uF6, uF7, uF8, uF9, uF10, uF11, uF12, uF13, uF14, uF15, uF16, uF17, uF18), wO)) hc hw hl.1 (m_X8_parties h2) kX8_59 co_245 rfl rfl ⟨rfl, rfl⟩ ⟨Nat.le_of_ble_eq_true rfl, Nat.le_of_ble_eq_true rfl⟩ ⟨Nat.zero_le _, Nat.zero_le _⟩ (Nat.le_of_ble_eq_true rfl) dX8_nextAt_6 (fun H locs hw => ?_)
    refine lv_icmp_ge (tgt := 51) hx hb dX8_nextAt_9 (by decide) (fun c3 => ?_) (fun c3 => ?_)
    · have hf := xif_t c3 hf
      refine lv_iconst (v := (-1)) hx hb dX8_nextAt_51 (by decide) ?_
      cases hf
      exact K _ _ _ _ dX8_nextAt_52 rfl hw
    · have hf := xif_f c3 hf
      refine lv_iload_n hx hb dX8_nextAt_12 rfl (lv_at hl 1 rfl) ?_
      refine lv_if_eq (tgt := 43) hx hb dX8_nextAt_13 (by decide) (fun c4 => ?_) (fun c4 => ?_)
      · have hf := xif_t c4 hf
        refine lv_iload_n hx hb dX8_nextAt_43 rfl (lv_at hl 2 rfl) ?_
        cases hf
        exact K _ _ _ _ dX8_nextAt_44 rfl hw
      · have hf := xif_f c4 hf
        refine lv_aload_n hx hb dX8_nextAt_16 rfl (lv_at hl 0 rfl) ?_
        refine lv_iload_n hx hb dX8_nextAt_17 rfl (lv_at hl 1 rfl) ?_
        refine lv_iload_n hx hb dX8_nextAt_18 rfl (lv_at hl 2 rfl) ?_
        obtain ⟨v5, h6, hf⟩ := xb1_of hf
        refine x_calliV (As := [.int x1, .int x3]) (rest := []) (σ' := (wA, wT, wG, wM, (uF0, uF1, uF2, uF3, uF4, uF5, uF6, uF7, uF8, uF9, uF10, uF11, uF12, uF13, uF14, uF15, uF16, uF17, uF18), wO)) hc hw hl.1 (m_X8_isNew h6) kX8_233 co_245 rfl rfl ⟨rfl, rfl⟩ ⟨Nat.le_of_ble_eq_true rfl, Nat.le_of_ble_eq_true rfl⟩ ⟨Nat.zero_le _, Nat.zero_le _⟩ (Nat.le_of_ble_eq_true rfl) dX8_nextAt_19 (fun H locs hw => ?_)
        refine lv_if_eq (tgt := 45) hx hb dX8_nextAt_22 (by decide) (fun c7 => ?_) (fun c7 => ?_)
        · have hf := xif_t c7 hf
          refine lv_iinc (v := (x3 + 1)) (lv' := [(3, .int (x3 + 1)), (0, .ref (xAd κ 245)), (1, .int x1)]) hx hb dX8_nextAt_45 hl (k := 2) rfl rfl (by decide) rfl (fun ls hl => ?_)
          refine lv_goto (tgt := 4) hx hb dX8_nextAt_48 (by decide) ?_
          exact hi _ _ _ _ _ hf hw (lv_sub hl [1, 2, 0] rfl)
        · have hf := xif_f c7 hf
          refine lv_aload_n hx hb dX8_nextAt_25 rfl (lv_at hl 0 rfl) ?_
          refine lv_aload_n hx hb dX8_nextAt_26 rfl (lv_at hl 0 rfl) ?_
          refine x_get (v := .ref (xAd κ 251)) hc hw co_245 fX8_30 rfl dX8_nextAt_27 ?_
          refine lv_iload_n hx hb dX8_nextAt_30 rfl (lv_at hl 1 rfl) ?_
          refine lv_iconst (v := 1) hx hb dX8_nextAt_31 (by decide) ?_
          refine lv_isub hx hb dX8_nextAt_32 ?_
          obtain ⟨k8, hf⟩ := xk_of hf
          refine x_iald (n := 6) (f := uF12) hc hw co_251 k8 dX8_nextAt_33 ?_
          refine lv_iload_n hx hb dX8_nextAt_34 rfl (lv_at hl 2 rfl) ?_
          obtain ⟨v9, h10, hf⟩ := xb1_of hf
          refine x_calllV (As := [.int (uF12 (x1 - 1).toNatClampNeg), .int x3]) (rest := []) (σ' := (wA, wT, wG, wM, (uF0, uF1, uF2, uF3, uF4, uF5, uF6, uF7, uF8, uF9, uF10, uF11, uF12, uF13, uF14, uF15, uF16, uF17, uF18), wO)) hc hw hl.1 (m_X8_owedBy h10) kX8_196 co_245 rfl rfl ⟨rfl, rfl⟩ ⟨Nat.le_of_ble_eq_true rfl, Nat.le_of_ble_eq_true rfl⟩ ⟨Nat.zero_le _, Nat.zero_le _⟩ (Nat.le_of_ble_eq_true rfl) dX8_nextAt_35 (fun H locs hw => ?_)
          refine lv_lconst (v := 0) hx hb dX8_nextAt_38 (by decide) ?_
          refine x_lcmp_le (tgt := 45) hx hb dX8_nextAt_39 dX8_nextAt_40 (by decide) (fun c11 => ?_) (fun c11 => ?_)
          · have hf := xif_t c11 hf
            refine lv_iinc (v := (x3 + 1)) (lv' := [(3, .int (x3 + 1)), (0, .ref (xAd κ 245)), (1, .int x1)]) hx hb dX8_nextAt_45 hl (k := 2) rfl rfl (by decide) rfl (fun ls hl => ?_)
            refine lv_goto (tgt := 4) hx hb dX8_nextAt_48 (by decide) ?_
            exact hi _ _ _ _ _ hf hw (lv_sub hl [1, 2, 0] rfl)
          · have hf := xif_f c11 hf
            refine lv_iload_n hx hb dX8_nextAt_43 rfl (lv_at hl 2 rfl) ?_
            cases hf
            exact K _ _ _ _ dX8_nextAt_44 rfl hw
set_option maxHeartbeats 4000000 in
set_option maxRecDepth 100000 in
theorem m_X8_nextAt {l : Launch} {κ : xKt} {wA : Nat → sAcc} {wT : sTxt} {wG : sRng} {wM : sMai} {wO : sOut} {fu : Nat} {x1 : Int32} {x2 : Int32} {uF0 : Int32} {uF1 : xF64} {uF2 : xF64} {uF3 : xF64} {uF4 : xF64} {uF5 : Int32} {uF6 : Int32} {uF7 : Int32} {uF8 : xF32} {uF9 : Int32} {uF10 : Int32} {uF11 : Int64} {uF12 : xF32} {uF13 : Int32} {uF14 : Int32} {uF15 : Int32} {uF16 : xF32} {uF17 : xF32} {uF18 : Int32} {rr : Int32} (hf : f_X8_nextAt fu x1 x2 uF1 uF12 = some rr) : xMi l κ yX8_nextAt cX8_nextAt 4 (some .int) (xR 3 0 0) [.ref (xAd κ 245), .int x1, .int x2] (wA, wT, wG, wM, (uF0, uF1, uF2, uF3, uF4, uF5, uF6, uF7, uF8, uF9, uF10, uF11, uF12, uF13, uF14, uF15, uF16, uF17, uF18), wO) (wA, wT, wG, wM, (uF0, uF1, uF2, uF3, uF4, uF5, uF6, uF7, uF8, uF9, uF10, uF11, uF12, uF13, uF14, uF15, uF16, uF17, uF18), wO) rr := by
  unfold f_X8_nextAt at hf
  refine xMi_of pn_X8 (Nat.le_of_ble_eq_true rfl) ⟨rfl, rfl⟩ ?_
  intro A p e s m args below meth c ls Q hc hw hl K
  have hc : xC κ A p s m args meth c cX8_nextAt RX8 4 (some .int) := hc
  have hx := hc.1.1
  have hb := hc.1.2.1
  have hl : lv_has ls 4 [(0, .ref (xAd κ 245)), (1, .int x1), (2, .int x2)] := hl
  refine lv_iload_n hx hb dX8_nextAt_0 rfl (lv_at hl 2 rfl) ?_
  refine lv_iconst (v := 1) hx hb dX8_nextAt_1 (by decide) ?_
  refine lv_iadd hx hb dX8_nextAt_2 ?_
  refine lv_istore_n (lv' := [(3, .int (x2 + 1)), (0, .ref (xAd κ 245)), (1, .int x1), (2, .int x2)]) hx hb dX8_nextAt_3 rfl hl (by decide) rfl (fun ls hl => ?_)
  exact l_X8_nextAt_4 hc K fu _ _ _ _ _ hf hw (lv_sub hl [1, 2, 0] rfl)
def f_X8_hasRing_4 (fu : Nat) (uF1 : xF64) : Nat → (Int32) → (Int32) → (Int32) → (xF32) → Option (Int32 × xF32)
  | 0, _, _, _, _ => none
  | n + 1, x1, x2, x3, uF12 => if x2 < 0 then (some (0, uF12)) else (xb1 (f_X8_nextAt fu x2 x3 uF1 uF12) fun v2 => (if v2 = (-1) then (if (x2 + (-1)) < 0 then (f_X8_hasRing_4 fu uF1 n x1 (x2 + (-1)) (-1) uF12) else (xk (xin (x2 + (-1)) 6) (f_X8_hasRing_4 fu uF1 n x1 (x2 + (-1)) (uF12 (x2 + (-1)).toNatClampNeg) uF12))) else (xk (xin x2 6) (if (x2 + 1) = x1 then (xk (xin 0 6) (xb1 (f_X8_owedBy fu v2 ((upd uF12 x2.toNatClampNeg v2) (0 : Int32).toNatClampNeg) uF1) fun v8 => (if v8 ≤ 0 then (f_X8_hasRing_4 fu uF1 n x1 ((x2 + 1) + (-1)) v2 (upd uF12 x2.toNatClampNeg v2)) else (some (1, (upd uF12 x2.toNatClampNeg v2)))))) else (f_X8_hasRing_4 fu uF1 n x1 (x2 + 1) (-1) (upd uF12 x2.toNatClampNeg v2))))))
def f_X8_hasRing (fu : Nat) (x1 : Int32) (uF1 : xF64) (uF12 : xF32) : Option (Int32 × xF32) :=
  f_X8_hasRing_4 fu uF1 fu x1 0 (-1) uF12
set_option maxHeartbeats 4000000 in
set_option maxRecDepth 100000 in
theorem l_X8_hasRing_4 {l : Launch} {κ : xKt} {wA : Nat → sAcc} {wT : sTxt} {wG : sRng} {wM : sMai} {wO : sOut} {fu : Nat} {uF0 : Int32} {uF1 : xF64} {uF2 : xF64} {uF3 : xF64} {uF4 : xF64} {uF5 : Int32} {uF6 : Int32} {uF7 : Int32} {uF8 : xF32} {uF9 : Int32} {uF10 : Int32} {uF11 : Int64} {uF13 : Int32} {uF14 : Int32} {uF15 : Int32} {uF16 : xF32} {uF17 : xF32} {uF18 : Int32} {A : Nat → Prop} {p : Program} {e : Env} {s : State} {m : MethodId} {args : Array Value} {below : List Frame} {meth : Method} {c : Code} {Q : State → Prop} {rr : Int32} {yF12 : xF32}
    (hc : xC κ A p s m args meth c cX8_hasRing RX8 5 (some .boolean))
    (K : ∀ (pc : Nat) (ls : Array Slot) (H : Heap) (locs : List Loc), decode cX8_hasRing pc = .ok (.ireturn, 1) → narrow .boolean (.int rr) = .int rr → xW κ A s (wA, wT, wG, wM, (uF0, uF1, uF2, uF3, uF4, uF5, uF6, uF7, uF8, uF9, uF10, uF11, yF12, uF13, uF14, uF15, uF16, uF17, uF18), wO) H locs → W p l e (xR 4 0 0) s m args below meth c H locs 0 0 Q (F0 m pc ls [.int rr])) :
    ∀ (n : Nat) (x1 : Int32) (x2 : Int32) (x3 : Int32) (uF12 : xF32) (H : Heap) (locs : List Loc) (ls : Array Slot), f_X8_hasRing_4 fu uF1 n x1 x2 x3 uF12 = some (rr, yF12) → xW κ A s (wA, wT, wG, wM, (uF0, uF1, uF2, uF3, uF4, uF5, uF6, uF7, uF8, uF9, uF10, uF11, uF12, uF13, uF14, uF15, uF16, uF17, uF18), wO) H locs → lv_has ls 5 [(0, .ref (xAd κ 245)), (1, .int x1), (2, .int x2), (3, .int x3)] → W p l e (xR 4 0 0) s m args below meth c H locs 0 0 Q (F0 m 4 ls []) := by
  have hx := hc.1.1
  have hb := hc.1.2.1
  intro n
  induction n with
  | zero =>
    intro x1 x2 x3 uF12 H locs ls hf
    rw [f_X8_hasRing_4] at hf
    cases hf
  | succ n hi =>
    intro x1 x2 x3 uF12 H locs ls hf hw hl
    rw [f_X8_hasRing_4] at hf
    refine lv_iload_n hx hb dX8_hasRing_4 rfl (lv_at hl 2 rfl) ?_
    refine lv_if_lt (tgt := 89) hx hb dX8_hasRing_5 (by decide) (fun c1 => ?_) (fun c1 => ?_)
    · have hf := xif_t c1 hf
      refine lv_iconst (v := 0) hx hb dX8_hasRing_89 (by decide) ?_
      cases hf
      exact K _ _ _ _ dX8_hasRing_90 rfl hw
    · have hf := xif_f c1 hf
      refine lv_aload_n hx hb dX8_hasRing_8 rfl (lv_at hl 0 rfl) ?_
      refine lv_iload_n hx hb dX8_hasRing_9 rfl (lv_at hl 2 rfl) ?_
      refine lv_iload_n hx hb dX8_hasRing_10 rfl (lv_at hl 3 rfl) ?_
      obtain ⟨v2, h3, hf⟩ := xb1_of hf
      refine x_calliV (As := [.int x2, .int x3]) (rest := []) (σ' := (wA, wT, wG, wM, (uF0, uF1, uF2, uF3, uF4, uF5, uF6, uF7, uF8, uF9, uF10, uF11, uF12, uF13, uF14, uF15, uF16, uF17, uF18), wO)) hc hw hl.1 (m_X8_nextAt h3) kX8_237 co_245 rfl rfl ⟨rfl, rfl⟩ ⟨Nat.le_of_ble_eq_true rfl, Nat.le_of_ble_eq_true rfl⟩ ⟨Nat.zero_le _, Nat.zero_le _⟩ (Nat.le_of_ble_eq_true rfl) dX8_hasRing_11 (fun H locs hw => ?_)
      refine lv_istore (lv' := [(4, .int v2), (0, .ref (xAd κ 245)), (1, .int x1), (2, .int x2), (3, .int x3)]) hx hb dX8_hasRing_14 hl (by decide) rfl (fun ls hl => ?_)
      refine lv_iload hx hb dX8_hasRing_16 (lv_at hl 0 rfl) ?_
      refine lv_iconst (v := (-1)) hx hb dX8_hasRing_18 (by decide) ?_
      refine lv_icmp_ne (tgt := 43) hx hb dX8_hasRing_19 (by decide) (fun c4 => ?_) (fun c4 => ?_)
      · have hf := xif_f c4 hf
        refine lv_aload_n hx hb dX8_hasRing_43 rfl (lv_at hl 1 rfl) ?_
        refine x_get (v := .ref (xAd κ 251)) hc hw co_245 fX8_30 rfl dX8_hasRing_44 ?_
        refine lv_iload_n hx hb dX8_hasRing_47 rfl (lv_at hl 3 rfl) ?_
        refine lv_iload hx hb dX8_hasRing_48 (lv_at hl 0 rfl) ?_
        obtain ⟨k5, hf⟩ := xk_of hf
        refine x_iast (n := 6) (f := uF12) (σ' := (wA, wT, wG, wM, (uF0, uF1, uF2, uF3, uF4, uF5, uF6, uF7, uF8, uF9, uF10, uF11, (upd uF12 x2.toNatClampNeg v2), uF13, uF14, uF15, uF16, uF17, uF18), wO)) hc hw co_251 k5 so_F_12 dX8_hasRing_50 (fun H locs hw => ?_)
        refine lv_iinc (v := (x2 + 1)) (lv' := [(2, .int (x2 + 1)), (4, .int v2), (0, .ref (xAd κ 245)), (1, .int x1), (3, .int x3)]) hx hb dX8_hasRing_51 hl (k := 3) rfl rfl (by decide) rfl (fun ls hl => ?_)
        refine lv_iconst (v := (-1)) hx hb dX8_hasRing_54 (by decide) ?_
        refine lv_istore_n (lv' := [(3, .int (-1)), (2, .int (x2 + 1)), (4, .int v2), (0, .ref (xAd κ 245)), (1, .int x1)]) hx hb dX8_hasRing_55 rfl hl (by decide) rfl (fun ls hl => ?_)
        refine lv_iload_n hx hb dX8_hasRing_56 rfl (lv_at hl 1 rfl) ?_
        refine lv_iload_n hx hb dX8_hasRing_57 rfl (lv_at hl 4 rfl) ?_
        refine lv_icmp_ne (tgt := 86) hx hb dX8_hasRing_58 (by decide) (fun c6 => ?_) (fun c6 => ?_)
        · have hf := xif_f c6 hf
          refine lv_goto (tgt := 4) hx hb dX8_hasRing_86 (by decide) ?_
          exact hi _ _ _ _ _ _ _ hf hw (lv_sub hl [3, 4, 1, 0] rfl)
        · have hf := xif_t c6 hf
          refine lv_aload_n hx hb dX8_hasRing_61 rfl (lv_at hl 3 rfl) ?_
          refine lv_iload hx hb dX8_hasRing_62 (lv_at hl 2 rfl) ?_
          refine lv_aload_n hx hb dX8_hasRing_64 rfl (lv_at hl 3 rfl) ?_
          refine x_get (v := .ref (xAd κ 251)) hc hw co_245 fX8_30 rfl dX8_hasRing_65 ?_
          refine lv_iconst (v := 0) hx hb dX8_hasRing_68 (by decide) ?_
          obtain ⟨k7, hf⟩ := xk_of hf
          refine x_iald (n := 6) (f := (upd uF12 x2.toNatClampNeg v2)) hc hw co_251 k7 dX8_hasRing_69 ?_
          obtain ⟨v8, h9, hf⟩ := xb1_of hf
          refine x_calllV (As := [.int v2, .int ((upd uF12 x2.toNatClampNeg v2) (0 : Int32).toNatClampNeg)]) (rest := []) (σ' := (wA, wT, wG, wM, (uF0, uF1, uF2, uF3, uF4, uF5, uF6, uF7, uF8, uF9, uF10, uF11, (upd uF12 x2.toNatClampNeg v2), uF13, uF14, uF15, uF16, uF17, uF18), wO)) hc hw hl.1 (m_X8_owedBy h9) kX8_196 co_245 rfl rfl ⟨rfl, rfl⟩ ⟨Nat.le_of_ble_eq_true rfl, Nat.le_of_ble_eq_true rfl⟩ ⟨Nat.zero_le _, Nat.zero_le _⟩ (Nat.le_of_ble_eq_true rfl) dX8_hasRing_70 (fun H locs hw => ?_)
          refine lv_lconst (v := 0) hx hb dX8_hasRing_73 (by decide) ?_
          refine x_lcmp_le (tgt := 80) hx hb dX8_hasRing_74 dX8_hasRing_75 (by decide) (fun c10 => ?_) (fun c10 => ?_)
          · have hf := xif_t c10 hf
            refine lv_iinc (v := ((x2 + 1) + (-1))) (lv' := [(2, .int ((x2 + 1) + (-1))), (3, .int (-1)), (4, .int v2), (0, .ref (xAd κ 245)), (1, .int x1)]) hx hb dX8_hasRing_80 hl (k := 1) rfl rfl (by decide) rfl (fun ls hl => ?_)
            refine lv_iload hx hb dX8_hasRing_83 (lv_at hl 2 rfl) ?_
            refine lv_istore_n (lv' := [(3, .int v2), (2, .int ((x2 + 1) + (-1))), (4, .int v2), (0, .ref (xAd κ 245)), (1, .int x1)]) hx hb dX8_hasRing_85 rfl hl (by decide) rfl (fun ls hl => ?_)
            refine lv_goto (tgt := 4) hx hb dX8_hasRing_86 (by decide) ?_
            exact hi _ _ _ _ _ _ _ hf hw (lv_sub hl [3, 4, 1, 0] rfl)
          · have hf := xif_f c10 hf
            refine lv_iconst (v := 1) hx hb dX8_hasRing_78 (by decide) ?_
            cases hf
            exact K _ _ _ _ dX8_hasRing_79 rfl hw
      · have hf := xif_t c4 hf
        refine lv_iinc (v := (x2 + (-1))) (lv' := [(2, .int (x2 + (-1))), (4, .int v2), (0, .ref (xAd κ 245)), (1, .int x1), (3, .int x3)]) hx hb dX8_hasRing_22 hl (k := 3) rfl rfl (by decide) rfl (fun ls hl => ?_)
        refine lv_iload_n hx hb dX8_hasRing_25 rfl (lv_at hl 0 rfl) ?_
        refine lv_if_lt (tgt := 38) hx hb dX8_hasRing_26 (by decide) (fun c11 => ?_) (fun c11 => ?_)
        · have hf := xif_t c11 hf
          refine lv_iconst (v := (-1)) hx hb dX8_hasRing_38 (by decide) ?_
          refine lv_istore_n (lv' := [(3, .int (-1)), (2, .int (x2 + (-1))), (4, .int v2), (0, .ref (xAd κ 245)), (1, .int x1)]) hx hb dX8_hasRing_39 rfl hl (by decide) rfl (fun ls hl => ?_)
          refine lv_goto (tgt := 86) hx hb dX8_hasRing_40 (by decide) ?_
          refine lv_goto (tgt := 4) hx hb dX8_hasRing_86 (by decide) ?_
          exact hi _ _ _ _ _ _ _ hf hw (lv_sub hl [3, 4, 1, 0] rfl)
        · have hf := xif_f c11 hf
          refine lv_aload_n hx hb dX8_hasRing_29 rfl (lv_at hl 2 rfl) ?_
          refine x_get (v := .ref (xAd κ 251)) hc hw co_245 fX8_30 rfl dX8_hasRing_30 ?_
          refine lv_iload_n hx hb dX8_hasRing_33 rfl (lv_at hl 0 rfl) ?_
          obtain ⟨k12, hf⟩ := xk_of hf
          refine x_iald (n := 6) (f := uF12) hc hw co_251 k12 dX8_hasRing_34 ?_
          refine lv_goto (tgt := 39) hx hb dX8_hasRing_35 (by decide) ?_
          refine lv_istore_n (lv' := [(3, .int (uF12 (x2 + (-1)).toNatClampNeg)), (2, .int (x2 + (-1))), (4, .int v2), (0, .ref (xAd κ 245)), (1, .int x1)]) hx hb dX8_hasRing_39 rfl hl (by decide) rfl (fun ls hl => ?_)
          refine lv_goto (tgt := 86) hx hb dX8_hasRing_40 (by decide) ?_
          refine lv_goto (tgt := 4) hx hb dX8_hasRing_86 (by decide) ?_
          exact hi _ _ _ _ _ _ _ hf hw (lv_sub hl [3, 4, 1, 0] rfl)
set_option maxHeartbeats 4000000 in
set_option maxRecDepth 100000 in
theorem m_X8_hasRing {l : Launch} {κ : xKt} {wA : Nat → sAcc} {wT : sTxt} {wG : sRng} {wM : sMai} {wO : sOut} {fu : Nat} {x1 : Int32} {uF0 : Int32} {uF1 : xF64} {uF2 : xF64} {uF3 : xF64} {uF4 : xF64} {uF5 : Int32} {uF6 : Int32} {uF7 : Int32} {uF8 : xF32} {uF9 : Int32} {uF10 : Int32} {uF11 : Int64} {uF12 : xF32} {uF13 : Int32} {uF14 : Int32} {uF15 : Int32} {uF16 : xF32} {uF17 : xF32} {uF18 : Int32} {rr : Int32} {yF12 : xF32} (hf : f_X8_hasRing fu x1 uF1 uF12 = some (rr, yF12)) : xMi l κ yX8_hasRing cX8_hasRing 5 (some .boolean) (xR 4 0 0) [.ref (xAd κ 245), .int x1] (wA, wT, wG, wM, (uF0, uF1, uF2, uF3, uF4, uF5, uF6, uF7, uF8, uF9, uF10, uF11, uF12, uF13, uF14, uF15, uF16, uF17, uF18), wO) (wA, wT, wG, wM, (uF0, uF1, uF2, uF3, uF4, uF5, uF6, uF7, uF8, uF9, uF10, uF11, yF12, uF13, uF14, uF15, uF16, uF17, uF18), wO) rr := by
  unfold f_X8_hasRing at hf
  refine xMi_of pn_X8 (Nat.le_of_ble_eq_true rfl) ⟨rfl, rfl⟩ ?_
  intro A p e s m args below meth c ls Q hc hw hl K
  have hc : xC κ A p s m args meth c cX8_hasRing RX8 5 (some .boolean) := hc
  have hx := hc.1.1
  have hb := hc.1.2.1
  have hl : lv_has ls 5 [(0, .ref (xAd κ 245)), (1, .int x1)] := hl
  refine lv_iconst (v := 0) hx hb dX8_hasRing_0 (by decide) ?_
  refine lv_istore_n (lv' := [(2, .int 0), (0, .ref (xAd κ 245)), (1, .int x1)]) hx hb dX8_hasRing_1 rfl hl (by decide) rfl (fun ls hl => ?_)
  refine lv_iconst (v := (-1)) hx hb dX8_hasRing_2 (by decide) ?_
  refine lv_istore_n (lv' := [(3, .int (-1)), (2, .int 0), (0, .ref (xAd κ 245)), (1, .int x1)]) hx hb dX8_hasRing_3 rfl hl (by decide) rfl (fun ls hl => ?_)
  exact l_X8_hasRing_4 hc K fu _ _ _ _ _ _ _ hf hw (lv_sub hl [2, 3, 1, 0] rfl)
def f_X8_firstRing_2 (fu : Nat) (uF1 : xF64) : Nat → (Int32) → (xF32) → Option (Int32 × xF32)
  | 0, _, _ => none
  | n + 1, x1, uF12 => xb1 (f_X8_parties uF1) fun v1 => (if v1 < x1 then (some (0, uF12)) else (xb2 (f_X8_hasRing fu x1 uF1 uF12) fun v4 uF12_5 => (if v4 = 0 then (f_X8_firstRing_2 fu uF1 n (x1 + 1) uF12_5) else (some (x1, uF12_5)))))
def f_X8_firstRing (fu : Nat) (uF1 : xF64) (uF12 : xF32) : Option (Int32 × xF32) :=
  f_X8_firstRing_2 fu uF1 fu 2 uF12
set_option maxHeartbeats 4000000 in
set_option maxRecDepth 100000 in
theorem l_X8_firstRing_2 {l : Launch} {κ : xKt} {wA : Nat → sAcc} {wT : sTxt} {wG : sRng} {wM : sMai} {wO : sOut} {fu : Nat} {uF0 : Int32} {uF1 : xF64} {uF2 : xF64} {uF3 : xF64} {uF4 : xF64} {uF5 : Int32} {uF6 : Int32} {uF7 : Int32} {uF8 : xF32} {uF9 : Int32} {uF10 : Int32} {uF11 : Int64} {uF13 : Int32} {uF14 : Int32} {uF15 : Int32} {uF16 : xF32} {uF17 : xF32} {uF18 : Int32} {A : Nat → Prop} {p : Program} {e : Env} {s : State} {m : MethodId} {args : Array Value} {below : List Frame} {meth : Method} {c : Code} {Q : State → Prop} {rr : Int32} {yF12 : xF32}
    (hc : xC κ A p s m args meth c cX8_firstRing RX8 2 (some .int))
    (K : ∀ (pc : Nat) (ls : Array Slot) (H : Heap) (locs : List Loc), decode cX8_firstRing pc = .ok (.ireturn, 1) → narrow .int (.int rr) = .int rr → xW κ A s (wA, wT, wG, wM, (uF0, uF1, uF2, uF3, uF4, uF5, uF6, uF7, uF8, uF9, uF10, uF11, yF12, uF13, uF14, uF15, uF16, uF17, uF18), wO) H locs → W p l e (xR 5 0 0) s m args below meth c H locs 0 0 Q (F0 m pc ls [.int rr])) :
    ∀ (n : Nat) (x1 : Int32) (uF12 : xF32) (H : Heap) (locs : List Loc) (ls : Array Slot), f_X8_firstRing_2 fu uF1 n x1 uF12 = some (rr, yF12) → xW κ A s (wA, wT, wG, wM, (uF0, uF1, uF2, uF3, uF4, uF5, uF6, uF7, uF8, uF9, uF10, uF11, uF12, uF13, uF14, uF15, uF16, uF17, uF18), wO) H locs → lv_has ls 2 [(0, .ref (xAd κ 245)), (1, .int x1)] → W p l e (xR 5 0 0) s m args below meth c H locs 0 0 Q (F0 m 2 ls []) := by
  have hx := hc.1.1
  have hb := hc.1.2.1
  intro n
  induction n with
  | zero =>
    intro x1 uF12 H locs ls hf
    rw [f_X8_firstRing_2] at hf
    cases hf
  | succ n hi =>
    intro x1 uF12 H locs ls hf hw hl
    rw [f_X8_firstRing_2] at hf
    refine lv_iload_n hx hb dX8_firstRing_2 rfl (lv_at hl 1 rfl) ?_
    refine lv_aload_n hx hb dX8_firstRing_3 rfl (lv_at hl 0 rfl) ?_
    obtain ⟨v1, h2, hf⟩ := xb1_of hf
    refine x_calliV (As := []) (rest := [.int x1]) (σ' := (wA, wT, wG, wM, (uF0, uF1, uF2, uF3, uF4, uF5, uF6, uF7, uF8, uF9, uF10, uF11, uF12, uF13, uF14, uF15, uF16, uF17, uF18), wO)) hc hw hl.1 (m_X8_parties h2) kX8_59 co_245 rfl rfl ⟨rfl, rfl⟩ ⟨Nat.le_of_ble_eq_true rfl, Nat.le_of_ble_eq_true rfl⟩ ⟨Nat.zero_le _, Nat.zero_le _⟩ (Nat.le_of_ble_eq_true rfl) dX8_firstRing_4 (fun H locs hw => ?_)
    refine lv_icmp_gt (tgt := 26) hx hb dX8_firstRing_7 (by decide) (fun c3 => ?_) (fun c3 => ?_)
    · have hf := xif_t c3 hf
      refine lv_iconst (v := 0) hx hb dX8_firstRing_26 (by decide) ?_
      cases hf
      exact K _ _ _ _ dX8_firstRing_27 rfl hw
    · have hf := xif_f c3 hf
      refine lv_aload_n hx hb dX8_firstRing_10 rfl (lv_at hl 0 rfl) ?_
      refine lv_iload_n hx hb dX8_firstRing_11 rfl (lv_at hl 1 rfl) ?_
      obtain ⟨v4, uF12_5, h6, hf⟩ := xb2_of hf
      refine x_calliV (As := [.int x1]) (rest := []) (σ' := (wA, wT, wG, wM, (uF0, uF1, uF2, uF3, uF4, uF5, uF6, uF7, uF8, uF9, uF10, uF11, uF12_5, uF13, uF14, uF15, uF16, uF17, uF18), wO)) hc hw hl.1 (m_X8_hasRing h6) kX8_240 co_245 rfl rfl ⟨rfl, rfl⟩ ⟨Nat.le_of_ble_eq_true rfl, Nat.le_of_ble_eq_true rfl⟩ ⟨Nat.zero_le _, Nat.zero_le _⟩ (Nat.le_of_ble_eq_true rfl) dX8_firstRing_12 (fun H locs hw => ?_)
      refine lv_if_eq (tgt := 20) hx hb dX8_firstRing_15 (by decide) (fun c7 => ?_) (fun c7 => ?_)
      · have hf := xif_t c7 hf
        refine lv_iinc (v := (x1 + 1)) (lv' := [(1, .int (x1 + 1)), (0, .ref (xAd κ 245))]) hx hb dX8_firstRing_20 hl (k := 1) rfl rfl (by decide) rfl (fun ls hl => ?_)
        refine lv_goto (tgt := 2) hx hb dX8_firstRing_23 (by decide) ?_
        exact hi _ _ _ _ _ hf hw (lv_sub hl [1, 0] rfl)
      · have hf := xif_f c7 hf
        refine lv_iload_n hx hb dX8_firstRing_18 rfl (lv_at hl 1 rfl) ?_
        cases hf
        exact K _ _ _ _ dX8_firstRing_19 rfl hw
set_option maxHeartbeats 4000000 in
set_option maxRecDepth 100000 in
theorem m_X8_firstRing {l : Launch} {κ : xKt} {wA : Nat → sAcc} {wT : sTxt} {wG : sRng} {wM : sMai} {wO : sOut} {fu : Nat} {uF0 : Int32} {uF1 : xF64} {uF2 : xF64} {uF3 : xF64} {uF4 : xF64} {uF5 : Int32} {uF6 : Int32} {uF7 : Int32} {uF8 : xF32} {uF9 : Int32} {uF10 : Int32} {uF11 : Int64} {uF12 : xF32} {uF13 : Int32} {uF14 : Int32} {uF15 : Int32} {uF16 : xF32} {uF17 : xF32} {uF18 : Int32} {rr : Int32} {yF12 : xF32} (hf : f_X8_firstRing fu uF1 uF12 = some (rr, yF12)) : xMi l κ yX8_firstRing cX8_firstRing 2 (some .int) (xR 5 0 0) [.ref (xAd κ 245)] (wA, wT, wG, wM, (uF0, uF1, uF2, uF3, uF4, uF5, uF6, uF7, uF8, uF9, uF10, uF11, uF12, uF13, uF14, uF15, uF16, uF17, uF18), wO) (wA, wT, wG, wM, (uF0, uF1, uF2, uF3, uF4, uF5, uF6, uF7, uF8, uF9, uF10, uF11, yF12, uF13, uF14, uF15, uF16, uF17, uF18), wO) rr := by
  unfold f_X8_firstRing at hf
  refine xMi_of pn_X8 (Nat.le_of_ble_eq_true rfl) ⟨rfl, rfl⟩ ?_
  intro A p e s m args below meth c ls Q hc hw hl K
  have hc : xC κ A p s m args meth c cX8_firstRing RX8 2 (some .int) := hc
  have hx := hc.1.1
  have hb := hc.1.2.1
  have hl : lv_has ls 2 [(0, .ref (xAd κ 245))] := hl
  refine lv_iconst (v := 2) hx hb dX8_firstRing_0 (by decide) ?_
  refine lv_istore_n (lv' := [(1, .int 2), (0, .ref (xAd κ 245))]) hx hb dX8_firstRing_1 rfl hl (by decide) rfl (fun ls hl => ?_)
  exact l_X8_firstRing_2 hc K fu _ _ _ _ _ hf hw (lv_sub hl [1, 0] rfl)
def f_X8_ring (fu : Nat) (x1 : Int32) (uF0 : Int32) (uF1 : xF64) (uF12 : xF32) : Option (Int32 × Int32 × xF32) :=
  xb2 (f_X8_firstRing fu uF1 uF12) fun v1 uF12_2 => (xb1 (f_X8_in x1 0 (v1 - 1)) fun v4 => (if v4 = 0 then (xb2 (f_X8_fails 1 0) fun v7 uF0_8 => (some (v7, uF0_8, uF12_2))) else (xk (xin x1 6) (some ((uF12_2 x1.toNatClampNeg), 0, uF12_2)))))
set_option maxHeartbeats 4000000 in
set_option maxRecDepth 100000 in
theorem m_X8_ring {l : Launch} {κ : xKt} {wA : Nat → sAcc} {wT : sTxt} {wG : sRng} {wM : sMai} {wO : sOut} {fu : Nat} {x1 : Int32} {uF0 : Int32} {uF1 : xF64} {uF2 : xF64} {uF3 : xF64} {uF4 : xF64} {uF5 : Int32} {uF6 : Int32} {uF7 : Int32} {uF8 : xF32} {uF9 : Int32} {uF10 : Int32} {uF11 : Int64} {uF12 : xF32} {uF13 : Int32} {uF14 : Int32} {uF15 : Int32} {uF16 : xF32} {uF17 : xF32} {uF18 : Int32} {rr : Int32} {yF0 : Int32} {yF12 : xF32} (hf : f_X8_ring fu x1 uF0 uF1 uF12 = some (rr, yF0, yF12)) : xMi l κ yX8_ring cX8_ring 3 (some .int) (xR 6 0 0) [.ref (xAd κ 245), .int x1] (wA, wT, wG, wM, (uF0, uF1, uF2, uF3, uF4, uF5, uF6, uF7, uF8, uF9, uF10, uF11, uF12, uF13, uF14, uF15, uF16, uF17, uF18), wO) (wA, wT, wG, wM, (yF0, uF1, uF2, uF3, uF4, uF5, uF6, uF7, uF8, uF9, uF10, uF11, yF12, uF13, uF14, uF15, uF16, uF17, uF18), wO) rr := by
  unfold f_X8_ring at hf
  refine xMi_of pn_X8 (Nat.le_of_ble_eq_true rfl) ⟨rfl, rfl⟩ ?_
  intro A p e s m args below meth c ls Q hc hw hl K
  have hc : xC κ A p s m args meth c cX8_ring RX8 3 (some .int) := hc
  have hx := hc.1.1
  have hb := hc.1.2.1
  have hl : lv_has ls 3 [(0, .ref (xAd κ 245)), (1, .int x1)] := hl
  refine lv_aload_n hx hb dX8_ring_0 rfl (lv_at hl 0 rfl) ?_
  refine lv_iconst (v := 0) hx hb dX8_ring_1 (by decide) ?_
  refine x_put (σ' := (wA, wT, wG, wM, (0, uF1, uF2, uF3, uF4, uF5, uF6, uF7, uF8, uF9, uF10, uF11, uF12, uF13, uF14, uF15, uF16, uF17, uF18), wO)) hc hw co_245 fX8_42 rfl rfl (Nat.le_of_ble_eq_true rfl) so_F_0 dX8_ring_2 (fun H locs hw => ?_)
  refine lv_aload_n hx hb dX8_ring_5 rfl (lv_at hl 0 rfl) ?_
  obtain ⟨v1, uF12_2, h3, hf⟩ := xb2_of hf
  refine x_calliV (As := []) (rest := []) (σ' := (wA, wT, wG, wM, (0, uF1, uF2, uF3, uF4, uF5, uF6, uF7, uF8, uF9, uF10, uF11, uF12_2, uF13, uF14, uF15, uF16, uF17, uF18), wO)) hc hw hl.1 (m_X8_firstRing h3) kX8_243 co_245 rfl rfl ⟨rfl, rfl⟩ ⟨Nat.le_of_ble_eq_true rfl, Nat.le_of_ble_eq_true rfl⟩ ⟨Nat.zero_le _, Nat.zero_le _⟩ (Nat.le_of_ble_eq_true rfl) dX8_ring_6 (fun H locs hw => ?_)
  refine lv_istore_n (lv' := [(2, .int v1), (0, .ref (xAd κ 245)), (1, .int x1)]) hx hb dX8_ring_9 rfl hl (by decide) rfl (fun ls hl => ?_)
  refine lv_iload_n hx hb dX8_ring_10 rfl (lv_at hl 2 rfl) ?_
  refine lv_iconst (v := 0) hx hb dX8_ring_11 (by decide) ?_
  refine lv_iload_n hx hb dX8_ring_12 rfl (lv_at hl 0 rfl) ?_
  refine lv_iconst (v := 1) hx hb dX8_ring_13 (by decide) ?_
  refine lv_isub hx hb dX8_ring_14 ?_
  obtain ⟨v4, h5, hf⟩ := xb1_of hf
  refine x_calliS (As := [.int x1, .int 0, .int (v1 - 1)]) (rest := []) (σ' := (wA, wT, wG, wM, (0, uF1, uF2, uF3, uF4, uF5, uF6, uF7, uF8, uF9, uF10, uF11, uF12_2, uF13, uF14, uF15, uF16, uF17, uF18), wO)) hc hw hl.1 (m_X8_in h5) kX8_63 rfl rfl ⟨rfl, rfl⟩ ⟨Nat.le_of_ble_eq_true rfl, Nat.le_of_ble_eq_true rfl⟩ ⟨Nat.zero_le _, Nat.zero_le _⟩ (Nat.le_of_ble_eq_true rfl) dX8_ring_15 (fun H locs hw => ?_)
  refine lv_if_eq (tgt := 30) hx hb dX8_ring_18 (by decide) (fun c6 => ?_) (fun c6 => ?_)
  · have hf := xif_t c6 hf
    refine lv_aload_n hx hb dX8_ring_30 rfl (lv_at hl 1 rfl) ?_
    refine lv_iconst (v := 1) hx hb dX8_ring_31 (by decide) ?_
    obtain ⟨v7, uF0_8, h9, hf⟩ := xb2_of hf
    refine x_calliV (As := [.int 1]) (rest := []) (σ' := (wA, wT, wG, wM, (uF0_8, uF1, uF2, uF3, uF4, uF5, uF6, uF7, uF8, uF9, uF10, uF11, uF12_2, uF13, uF14, uF15, uF16, uF17, uF18), wO)) hc hw hl.1 (m_X8_fails h9) kX8_79 co_245 rfl rfl ⟨rfl, rfl⟩ ⟨Nat.le_of_ble_eq_true rfl, Nat.le_of_ble_eq_true rfl⟩ ⟨Nat.zero_le _, Nat.zero_le _⟩ (Nat.le_of_ble_eq_true rfl) dX8_ring_32 (fun H locs hw => ?_)
    cases hf
    exact K _ _ _ _ dX8_ring_35 rfl hw
  · have hf := xif_f c6 hf
    refine lv_aload_n hx hb dX8_ring_21 rfl (lv_at hl 1 rfl) ?_
    refine x_get (v := .ref (xAd κ 251)) hc hw co_245 fX8_30 rfl dX8_ring_22 ?_
    refine lv_iload_n hx hb dX8_ring_25 rfl (lv_at hl 2 rfl) ?_
    obtain ⟨k10, hf⟩ := xk_of hf
    refine x_iald (n := 6) (f := uF12_2) hc hw co_251 k10 dX8_ring_26 ?_
    refine lv_goto (tgt := 35) hx hb dX8_ring_27 (by decide) ?_
    cases hf
    exact K _ _ _ _ dX8_ring_35 rfl hw
def f_X8_clearRings_43 (kx0 : Int64 → Int32 → Int64 → Int32 → xF64 → xF64 → xF64 → Int32 → xF32 → Option (Int64 × Int32 × xF64 × xF64 × xF64 × Int32 × xF32)) (fu : Nat) : Nat → (Int64) → (Int32) → (Int64) → (Int32) → (Int32) → (xF64) → (xF64) → (xF64) → (Int32) → (xF32) → Option (Int64 × Int32 × xF64 × xF64 × xF64 × Int32 × xF32)
  | 0, _, _, _, _, _, _, _, _, _, _ => none
  | n + 1, x1, x3, x4, x6, uF0, uF1, uF3, uF4, uF5, uF12 => if (x3 - 1) ≤ x6 then (kx0 x1 x3 x4 uF0 uF1 uF3 uF4 uF5 uF12) else (xk (xin x6 6) (xk (xin (x6 + 1) 6) (xb1 (f_X8_owedBy fu (uF12 x6.toNatClampNeg) (uF12 (x6 + 1).toNatClampNeg) uF1) fun v19 => (xb1 (f_X8_least x4 v19) fun v21 => (f_X8_clearRings_43 kx0 fu n x1 x3 v21 (x6 + 1) uF0 uF1 uF3 uF4 uF5 uF12)))))
def f_X8_clearRings_87 (kx0 : Int64 → Int32 → Int64 → Int32 → xF64 → xF64 → xF64 → Int32 → xF32 → Option (Int64 × Int32 × xF64 × xF64 × xF64 × Int32 × xF32)) (fu : Nat) : Nat → (Int64) → (Int32) → (Int64) → (Int32) → (Int32) → (xF64) → (xF64) → (xF64) → (Int32) → (xF32) → Option (Int64 × Int32 × xF64 × xF64 × xF64 × Int32 × xF32)
  | 0, _, _, _, _, _, _, _, _, _, _ => none
  | n + 1, x1, x3, x4, x6, uF0, uF1, uF3, uF4, uF5, uF12 => if x3 ≤ x6 then (kx0 x1 x3 x4 uF0 uF1 uF3 uF4 uF5 uF12) else (xk (xin x6 6) (xk (xnz x3) (xk (xin ((x6 + 1) - (x6 + 1) / x3 * x3) 6) (xb1 (f_X8_pays fu (uF12 x6.toNatClampNeg) (uF12 ((x6 + 1) - (x6 + 1) / x3 * x3).toNatClampNeg) x4 uF1) fun uF1_36 => (f_X8_clearRings_87 kx0 fu n x1 x3 x4 (x6 + 1) uF0 uF1_36 uF3 uF4 uF5 uF12)))))
def f_X8_clearRings_16 (fu : Nat) : Nat → (Int64) → (Int32) → (Int32) → (xF64) → (xF64) → (xF64) → (Int32) → (xF32) → Option (Int64 × Int32 × xF64 × xF64 × xF64 × Int32 × xF32)
  | 0, _, _, _, _, _, _, _, _ => none
  | n + 1, x1, x3, uF0, uF1, uF3, uF4, uF5, uF12 => if x3 ≤ 0 then (xb1 (f_X8_notes fu 10 x1 uF1) fun uF1_7 => (xb2 (f_X8_keeps fu uF3 uF4 uF5) fun uF4_9 uF5_10 => (some (x1, uF0, uF1_7, uF3, uF4_9, uF5_10, uF12)))) else (xk (xin (x3 - 1) 6) (xk (xin 0 6) (xb1 (f_X8_owedBy fu (uF12 (x3 - 1).toNatClampNeg) (uF12 (0 : Int32).toNatClampNeg) uF1) fun v14 => (f_X8_clearRings_43 (fun n23 n24 n25 uF0_26 uF1_27 uF3_28 uF4_29 uF5_30 uF12_31 => (f_X8_clearRings_87 (fun n38 n39 n40 uF0_41 uF1_42 uF3_43 uF4_44 uF5_45 uF12_46 => (xb2 (f_X8_firstRing fu uF1_42 uF12_46) fun v47 uF12_48 => (f_X8_clearRings_16 fu n (n38 + (n40 * n39.toInt64)) v47 uF0_41 uF1_42 uF3_43 uF4_44 uF5_45 uF12_48))) fu fu n23 n24 n25 0 uF0_26 uF1_27 uF3_28 uF4_29 uF5_30 uF12_31)) fu fu x1 x3 v14 0 uF0 uF1 uF3 uF4 uF5 uF12))))
def f_X8_clearRings (fu : Nat) (uF0 : Int32) (uF1 : xF64) (uF3 : xF64) (uF4 : xF64) (uF5 : Int32) (uF12 : xF32) : Option (Int64 × Int32 × xF64 × xF64 × xF64 × Int32 × xF32) :=
  xb1 (f_X8_remembers fu uF1 uF3) fun uF3_1 => (xb2 (f_X8_firstRing fu uF1 uF12) fun v3 uF12_4 => (f_X8_clearRings_16 fu fu 0 v3 0 uF1 uF3_1 uF4 uF5 uF12_4))
set_option maxHeartbeats 4000000 in
set_option maxRecDepth 100000 in
theorem l_X8_clearRings_43 {l : Launch} {κ : xKt} {wA : Nat → sAcc} {wT : sTxt} {wG : sRng} {wM : sMai} {wO : sOut} {fu : Nat} {uF2 : xF64} {uF6 : Int32} {uF7 : Int32} {uF8 : xF32} {uF9 : Int32} {uF10 : Int32} {uF11 : Int64} {uF13 : Int32} {uF14 : Int32} {uF15 : Int32} {uF16 : xF32} {uF17 : xF32} {uF18 : Int32} {A : Nat → Prop} {p : Program} {e : Env} {s : State} {m : MethodId} {args : Array Value} {below : List Frame} {meth : Method} {c : Code} {Q : State → Prop} {rr : Int64} {yF0 : Int32} {yF1 : xF64} {yF3 : xF64} {yF4 : xF64} {yF5 : Int32} {yF12 : xF32} {kx0 : Int64 → Int32 → Int64 → Int32 → xF64 → xF64 → xF64 → Int32 → xF32 → Option (Int64 × Int32 × xF64 × xF64 × xF64 × Int32 × xF32)}
    (hc : xC κ A p s m args meth c cX8_clearRings RX8 7 (some .long))
    (K : ∀ (pc : Nat) (ls : Array Slot) (H : Heap) (locs : List Loc), decode cX8_clearRings pc = .ok (.lreturn, 1) → xW κ A s (wA, wT, wG, wM, (yF0, yF1, uF2, yF3, yF4, yF5, uF6, uF7, uF8, uF9, uF10, uF11, yF12, uF13, uF14, uF15, uF16, uF17, uF18), wO) H locs → W p l e (xR 6 0 0) s m args below meth c H locs 0 0 Q (F0 m pc ls [.long rr])) (hk0 : ∀ (x1 : Int64) (x3 : Int32) (x4 : Int64) (uF0 : Int32) (uF1 : xF64) (uF3 : xF64) (uF4 : xF64) (uF5 : Int32) (uF12 : xF32) (H : Heap) (locs : List Loc) (ls : Array Slot), kx0 x1 x3 x4 uF0 uF1 uF3 uF4 uF5 uF12 = some (rr, yF0, yF1, yF3, yF4, yF5, yF12) → xW κ A s (wA, wT, wG, wM, (uF0, uF1, uF2, uF3, uF4, uF5, uF6, uF7, uF8, uF9, uF10, uF11, uF12, uF13, uF14, uF15, uF16, uF17, uF18), wO) H locs → lv_has ls 7 [(0, .ref (xAd κ 245)), (1, .long x1), (3, .int x3), (4, .long x4)] → W p l e (xR 6 0 0) s m args below meth c H locs 0 0 Q (F0 m 84 ls [])) :
    ∀ (n : Nat) (x1 : Int64) (x3 : Int32) (x4 : Int64) (x6 : Int32) (uF0 : Int32) (uF1 : xF64) (uF3 : xF64) (uF4 : xF64) (uF5 : Int32) (uF12 : xF32) (H : Heap) (locs : List Loc) (ls : Array Slot), f_X8_clearRings_43 kx0 fu n x1 x3 x4 x6 uF0 uF1 uF3 uF4 uF5 uF12 = some (rr, yF0, yF1, yF3, yF4, yF5, yF12) → xW κ A s (wA, wT, wG, wM, (uF0, uF1, uF2, uF3, uF4, uF5, uF6, uF7, uF8, uF9, uF10, uF11, uF12, uF13, uF14, uF15, uF16, uF17, uF18), wO) H locs → lv_has ls 7 [(0, .ref (xAd κ 245)), (1, .long x1), (3, .int x3), (4, .long x4), (6, .int x6)] → W p l e (xR 6 0 0) s m args below meth c H locs 0 0 Q (F0 m 43 ls []) := by
  have hx := hc.1.1
  have hb := hc.1.2.1
  intro n
  induction n with
  | zero =>
    intro x1 x3 x4 x6 uF0 uF1 uF3 uF4 uF5 uF12 H locs ls hf
    rw [f_X8_clearRings_43] at hf
    cases hf
  | succ n hi =>
    intro x1 x3 x4 x6 uF0 uF1 uF3 uF4 uF5 uF12 H locs ls hf hw hl
    rw [f_X8_clearRings_43] at hf
    refine lv_iload hx hb dX8_clearRings_43 (lv_at hl 4 rfl) ?_
    refine lv_iload_n hx hb dX8_clearRings_45 rfl (lv_at hl 2 rfl) ?_
    refine lv_iconst (v := 1) hx hb dX8_clearRings_46 (by decide) ?_
    refine lv_isub hx hb dX8_clearRings_47 ?_
    refine lv_icmp_ge (tgt := 84) hx hb dX8_clearRings_48 (by decide) (fun c16 => ?_) (fun c16 => ?_)
    · have hf := xif_t c16 hf
      exact hk0 _ _ _ _ _ _ _ _ _ _ _ _ hf hw (lv_sub hl [0, 1, 2, 3] rfl)
    · have hf := xif_f c16 hf
      refine lv_lload hx hb dX8_clearRings_51 (lv_at hl 3 rfl) ?_
      refine lv_aload_n hx hb dX8_clearRings_53 rfl (lv_at hl 0 rfl) ?_
      refine lv_aload_n hx hb dX8_clearRings_54 rfl (lv_at hl 0 rfl) ?_
      refine x_get (v := .ref (xAd κ 251)) hc hw co_245 fX8_30 rfl dX8_clearRings_55 ?_
      refine lv_iload hx hb dX8_clearRings_58 (lv_at hl 4 rfl) ?_
      obtain ⟨k17, hf⟩ := xk_of hf
      refine x_iald (n := 6) (f := uF12) hc hw co_251 k17 dX8_clearRings_60 ?_
      refine lv_aload_n hx hb dX8_clearRings_61 rfl (lv_at hl 0 rfl) ?_
      refine x_get (v := .ref (xAd κ 251)) hc hw co_245 fX8_30 rfl dX8_clearRings_62 ?_
      refine lv_iload hx hb dX8_clearRings_65 (lv_at hl 4 rfl) ?_
      refine lv_iconst (v := 1) hx hb dX8_clearRings_67 (by decide) ?_
      refine lv_iadd hx hb dX8_clearRings_68 ?_
      obtain ⟨k18, hf⟩ := xk_of hf
      refine x_iald (n := 6) (f := uF12) hc hw co_251 k18 dX8_clearRings_69 ?_
      obtain ⟨v19, h20, hf⟩ := xb1_of hf
      refine x_calllV (As := [.int (uF12 x6.toNatClampNeg), .int (uF12 (x6 + 1).toNatClampNeg)]) (rest := [.long x4]) (σ' := (wA, wT, wG, wM, (uF0, uF1, uF2, uF3, uF4, uF5, uF6, uF7, uF8, uF9, uF10, uF11, uF12, uF13, uF14, uF15, uF16, uF17, uF18), wO)) hc hw hl.1 (m_X8_owedBy h20) kX8_196 co_245 rfl rfl ⟨rfl, rfl⟩ ⟨Nat.le_of_ble_eq_true rfl, Nat.le_of_ble_eq_true rfl⟩ ⟨Nat.zero_le _, Nat.zero_le _⟩ (Nat.le_of_ble_eq_true rfl) dX8_clearRings_70 (fun H locs hw => ?_)
      obtain ⟨v21, h22, hf⟩ := xb1_of hf
      refine x_calllS (As := [.long x4, .long v19]) (rest := []) (σ' := (wA, wT, wG, wM, (uF0, uF1, uF2, uF3, uF4, uF5, uF6, uF7, uF8, uF9, uF10, uF11, uF12, uF13, uF14, uF15, uF16, uF17, uF18), wO)) hc hw hl.1 (m_X8_least h22) kX8_99 rfl rfl ⟨rfl, rfl⟩ ⟨Nat.le_of_ble_eq_true rfl, Nat.le_of_ble_eq_true rfl⟩ ⟨Nat.zero_le _, Nat.zero_le _⟩ (Nat.le_of_ble_eq_true rfl) dX8_clearRings_73 (fun H locs hw => ?_)
      refine lv_lstore (lv' := [(4, .long v21), (0, .ref (xAd κ 245)), (1, .long x1), (3, .int x3), (6, .int x6)]) hx hb dX8_clearRings_76 hl (by decide) rfl (fun ls hl => ?_)
      refine lv_iinc (v := (x6 + 1)) (lv' := [(6, .int (x6 + 1)), (4, .long v21), (0, .ref (xAd κ 245)), (1, .long x1), (3, .int x3)]) hx hb dX8_clearRings_78 hl (k := 4) rfl rfl (by decide) rfl (fun ls hl => ?_)
      refine lv_goto (tgt := 43) hx hb dX8_clearRings_81 (by decide) ?_
      exact hi _ _ _ _ _ _ _ _ _ _ _ _ _ hf hw (lv_sub hl [2, 3, 4, 1, 0] rfl)
set_option maxHeartbeats 4000000 in
set_option maxRecDepth 100000 in
theorem l_X8_clearRings_87 {l : Launch} {κ : xKt} {wA : Nat → sAcc} {wT : sTxt} {wG : sRng} {wM : sMai} {wO : sOut} {fu : Nat} {uF2 : xF64} {uF6 : Int32} {uF7 : Int32} {uF8 : xF32} {uF9 : Int32} {uF10 : Int32} {uF11 : Int64} {uF13 : Int32} {uF14 : Int32} {uF15 : Int32} {uF16 : xF32} {uF17 : xF32} {uF18 : Int32} {A : Nat → Prop} {p : Program} {e : Env} {s : State} {m : MethodId} {args : Array Value} {below : List Frame} {meth : Method} {c : Code} {Q : State → Prop} {rr : Int64} {yF0 : Int32} {yF1 : xF64} {yF3 : xF64} {yF4 : xF64} {yF5 : Int32} {yF12 : xF32} {kx0 : Int64 → Int32 → Int64 → Int32 → xF64 → xF64 → xF64 → Int32 → xF32 → Option (Int64 × Int32 × xF64 × xF64 × xF64 × Int32 × xF32)}
    (hc : xC κ A p s m args meth c cX8_clearRings RX8 7 (some .long))
    (K : ∀ (pc : Nat) (ls : Array Slot) (H : Heap) (locs : List Loc), decode cX8_clearRings pc = .ok (.lreturn, 1) → xW κ A s (wA, wT, wG, wM, (yF0, yF1, uF2, yF3, yF4, yF5, uF6, uF7, uF8, uF9, uF10, uF11, yF12, uF13, uF14, uF15, uF16, uF17, uF18), wO) H locs → W p l e (xR 6 0 0) s m args below meth c H locs 0 0 Q (F0 m pc ls [.long rr])) (hk0 : ∀ (x1 : Int64) (x3 : Int32) (x4 : Int64) (uF0 : Int32) (uF1 : xF64) (uF3 : xF64) (uF4 : xF64) (uF5 : Int32) (uF12 : xF32) (H : Heap) (locs : List Loc) (ls : Array Slot), kx0 x1 x3 x4 uF0 uF1 uF3 uF4 uF5 uF12 = some (rr, yF0, yF1, yF3, yF4, yF5, yF12) → xW κ A s (wA, wT, wG, wM, (uF0, uF1, uF2, uF3, uF4, uF5, uF6, uF7, uF8, uF9, uF10, uF11, uF12, uF13, uF14, uF15, uF16, uF17, uF18), wO) H locs → lv_has ls 7 [(0, .ref (xAd κ 245)), (1, .long x1), (3, .int x3), (4, .long x4)] → W p l e (xR 6 0 0) s m args below meth c H locs 0 0 Q (F0 m 123 ls [])) :
    ∀ (n : Nat) (x1 : Int64) (x3 : Int32) (x4 : Int64) (x6 : Int32) (uF0 : Int32) (uF1 : xF64) (uF3 : xF64) (uF4 : xF64) (uF5 : Int32) (uF12 : xF32) (H : Heap) (locs : List Loc) (ls : Array Slot), f_X8_clearRings_87 kx0 fu n x1 x3 x4 x6 uF0 uF1 uF3 uF4 uF5 uF12 = some (rr, yF0, yF1, yF3, yF4, yF5, yF12) → xW κ A s (wA, wT, wG, wM, (uF0, uF1, uF2, uF3, uF4, uF5, uF6, uF7, uF8, uF9, uF10, uF11, uF12, uF13, uF14, uF15, uF16, uF17, uF18), wO) H locs → lv_has ls 7 [(0, .ref (xAd κ 245)), (1, .long x1), (3, .int x3), (4, .long x4), (6, .int x6)] → W p l e (xR 6 0 0) s m args below meth c H locs 0 0 Q (F0 m 87 ls []) := by
  have hx := hc.1.1
  have hb := hc.1.2.1
  intro n
  induction n with
  | zero =>
    intro x1 x3 x4 x6 uF0 uF1 uF3 uF4 uF5 uF12 H locs ls hf
    rw [f_X8_clearRings_87] at hf
    cases hf
  | succ n hi =>
    intro x1 x3 x4 x6 uF0 uF1 uF3 uF4 uF5 uF12 H locs ls hf hw hl
    rw [f_X8_clearRings_87] at hf
    refine lv_iload hx hb dX8_clearRings_87 (lv_at hl 4 rfl) ?_
    refine lv_iload_n hx hb dX8_clearRings_89 rfl (lv_at hl 2 rfl) ?_
    refine lv_icmp_ge (tgt := 123) hx hb dX8_clearRings_90 (by decide) (fun c32 => ?_) (fun c32 => ?_)
    · have hf := xif_t c32 hf
      exact hk0 _ _ _ _ _ _ _ _ _ _ _ _ hf hw (lv_sub hl [0, 1, 2, 3] rfl)
    · have hf := xif_f c32 hf
      refine lv_aload_n hx hb dX8_clearRings_93 rfl (lv_at hl 0 rfl) ?_
      refine lv_aload_n hx hb dX8_clearRings_94 rfl (lv_at hl 0 rfl) ?_
      refine x_get (v := .ref (xAd κ 251)) hc hw co_245 fX8_30 rfl dX8_clearRings_95 ?_
      refine lv_iload hx hb dX8_clearRings_98 (lv_at hl 4 rfl) ?_
      obtain ⟨k33, hf⟩ := xk_of hf
      refine x_iald (n := 6) (f := uF12) hc hw co_251 k33 dX8_clearRings_100 ?_
      refine lv_aload_n hx hb dX8_clearRings_101 rfl (lv_at hl 0 rfl) ?_
      refine x_get (v := .ref (xAd κ 251)) hc hw co_245 fX8_30 rfl dX8_clearRings_102 ?_
      refine lv_iload hx hb dX8_clearRings_105 (lv_at hl 4 rfl) ?_
      refine lv_iconst (v := 1) hx hb dX8_clearRings_107 (by decide) ?_
      refine lv_iadd hx hb dX8_clearRings_108 ?_
      refine lv_iload_n hx hb dX8_clearRings_109 rfl (lv_at hl 2 rfl) ?_
      obtain ⟨k34, hf⟩ := xk_of hf
      refine lv_irem hx hb dX8_clearRings_110 (of_decide_eq_true k34) ?_
      obtain ⟨k35, hf⟩ := xk_of hf
      refine x_iald (n := 6) (f := uF12) hc hw co_251 k35 dX8_clearRings_111 ?_
      refine lv_lload hx hb dX8_clearRings_112 (lv_at hl 3 rfl) ?_
      obtain ⟨uF1_36, h37, hf⟩ := xb1_of hf
      refine x_callvV (As := [.int (uF12 x6.toNatClampNeg), .int (uF12 ((x6 + 1) - (x6 + 1) / x3 * x3).toNatClampNeg), .long x4]) (rest := []) (σ' := (wA, wT, wG, wM, (uF0, uF1_36, uF2, uF3, uF4, uF5, uF6, uF7, uF8, uF9, uF10, uF11, uF12, uF13, uF14, uF15, uF16, uF17, uF18), wO)) hc hw hl.1 (m_X8_pays h37) kX8_200 co_245 rfl rfl ⟨rfl, rfl⟩ ⟨Nat.le_of_ble_eq_true rfl, Nat.le_of_ble_eq_true rfl⟩ ⟨Nat.zero_le _, Nat.zero_le _⟩ (Nat.le_of_ble_eq_true rfl) dX8_clearRings_114 (fun H locs hw => ?_)
      refine lv_iinc (v := (x6 + 1)) (lv' := [(6, .int (x6 + 1)), (0, .ref (xAd κ 245)), (1, .long x1), (3, .int x3), (4, .long x4)]) hx hb dX8_clearRings_117 hl (k := 4) rfl rfl (by decide) rfl (fun ls hl => ?_)
      refine lv_goto (tgt := 87) hx hb dX8_clearRings_120 (by decide) ?_
      exact hi _ _ _ _ _ _ _ _ _ _ _ _ _ hf hw (lv_sub hl [1, 2, 3, 4, 0] rfl)
set_option maxHeartbeats 4000000 in
set_option maxRecDepth 100000 in
theorem l_X8_clearRings_16 {l : Launch} {κ : xKt} {wA : Nat → sAcc} {wT : sTxt} {wG : sRng} {wM : sMai} {wO : sOut} {fu : Nat} {uF2 : xF64} {uF6 : Int32} {uF7 : Int32} {uF8 : xF32} {uF9 : Int32} {uF10 : Int32} {uF11 : Int64} {uF13 : Int32} {uF14 : Int32} {uF15 : Int32} {uF16 : xF32} {uF17 : xF32} {uF18 : Int32} {A : Nat → Prop} {p : Program} {e : Env} {s : State} {m : MethodId} {args : Array Value} {below : List Frame} {meth : Method} {c : Code} {Q : State → Prop} {rr : Int64} {yF0 : Int32} {yF1 : xF64} {yF3 : xF64} {yF4 : xF64} {yF5 : Int32} {yF12 : xF32}
    (hc : xC κ A p s m args meth c cX8_clearRings RX8 7 (some .long))
    (K : ∀ (pc : Nat) (ls : Array Slot) (H : Heap) (locs : List Loc), decode cX8_clearRings pc = .ok (.lreturn, 1) → xW κ A s (wA, wT, wG, wM, (yF0, yF1, uF2, yF3, yF4, yF5, uF6, uF7, uF8, uF9, uF10, uF11, yF12, uF13, uF14, uF15, uF16, uF17, uF18), wO) H locs → W p l e (xR 6 0 0) s m args below meth c H locs 0 0 Q (F0 m pc ls [.long rr])) :
    ∀ (n : Nat) (x1 : Int64) (x3 : Int32) (uF0 : Int32) (uF1 : xF64) (uF3 : xF64) (uF4 : xF64) (uF5 : Int32) (uF12 : xF32) (H : Heap) (locs : List Loc) (ls : Array Slot), f_X8_clearRings_16 fu n x1 x3 uF0 uF1 uF3 uF4 uF5 uF12 = some (rr, yF0, yF1, yF3, yF4, yF5, yF12) → xW κ A s (wA, wT, wG, wM, (uF0, uF1, uF2, uF3, uF4, uF5, uF6, uF7, uF8, uF9, uF10, uF11, uF12, uF13, uF14, uF15, uF16, uF17, uF18), wO) H locs → lv_has ls 7 [(0, .ref (xAd κ 245)), (1, .long x1), (3, .int x3)] → W p l e (xR 6 0 0) s m args below meth c H locs 0 0 Q (F0 m 16 ls []) := by
  have hx := hc.1.1
  have hb := hc.1.2.1
  intro n
  induction n with
  | zero =>
    intro x1 x3 uF0 uF1 uF3 uF4 uF5 uF12 H locs ls hf
    rw [f_X8_clearRings_16] at hf
    cases hf
  | succ n hi =>
    intro x1 x3 uF0 uF1 uF3 uF4 uF5 uF12 H locs ls hf hw hl
    rw [f_X8_clearRings_16] at hf
    refine lv_iload_n hx hb dX8_clearRings_16 rfl (lv_at hl 2 rfl) ?_
    refine lv_if_le (tgt := 139) hx hb dX8_clearRings_17 (by decide) (fun c6 => ?_) (fun c6 => ?_)
    · have hf := xif_t c6 hf
      refine lv_aload_n hx hb dX8_clearRings_139 rfl (lv_at hl 0 rfl) ?_
      refine lv_bipush (v := 10) hx hb dX8_clearRings_140 (by decide) ?_
      refine lv_lload_n hx hb dX8_clearRings_142 rfl (lv_at hl 1 rfl) ?_
      obtain ⟨uF1_7, h8, hf⟩ := xb1_of hf
      refine x_callvV (As := [.int 10, .long x1]) (rest := []) (σ' := (wA, wT, wG, wM, (uF0, uF1_7, uF2, uF3, uF4, uF5, uF6, uF7, uF8, uF9, uF10, uF11, uF12, uF13, uF14, uF15, uF16, uF17, uF18), wO)) hc hw hl.1 (m_X8_notes h8) kX8_192 co_245 rfl rfl ⟨rfl, rfl⟩ ⟨Nat.le_of_ble_eq_true rfl, Nat.le_of_ble_eq_true rfl⟩ ⟨Nat.zero_le _, Nat.zero_le _⟩ (Nat.le_of_ble_eq_true rfl) dX8_clearRings_143 (fun H locs hw => ?_)
      refine lv_aload_n hx hb dX8_clearRings_146 rfl (lv_at hl 0 rfl) ?_
      obtain ⟨uF4_9, uF5_10, h11, hf⟩ := xb2_of hf
      refine x_callvV (As := []) (rest := []) (σ' := (wA, wT, wG, wM, (uF0, uF1_7, uF2, uF3, uF4_9, uF5_10, uF6, uF7, uF8, uF9, uF10, uF11, uF12, uF13, uF14, uF15, uF16, uF17, uF18), wO)) hc hw hl.1 (m_X8_keeps h11) kX8_83 co_245 rfl rfl ⟨rfl, rfl⟩ ⟨Nat.le_of_ble_eq_true rfl, Nat.le_of_ble_eq_true rfl⟩ ⟨Nat.zero_le _, Nat.zero_le _⟩ (Nat.le_of_ble_eq_true rfl) dX8_clearRings_147 (fun H locs hw => ?_)
      refine lv_lload_n hx hb dX8_clearRings_150 rfl (lv_at hl 1 rfl) ?_
      cases hf
      exact K _ _ _ _ dX8_clearRings_151 hw
    · have hf := xif_f c6 hf
      refine lv_aload_n hx hb dX8_clearRings_20 rfl (lv_at hl 0 rfl) ?_
      refine lv_aload_n hx hb dX8_clearRings_21 rfl (lv_at hl 0 rfl) ?_
      refine x_get (v := .ref (xAd κ 251)) hc hw co_245 fX8_30 rfl dX8_clearRings_22 ?_
      refine lv_iload_n hx hb dX8_clearRings_25 rfl (lv_at hl 2 rfl) ?_
      refine lv_iconst (v := 1) hx hb dX8_clearRings_26 (by decide) ?_
      refine lv_isub hx hb dX8_clearRings_27 ?_
      obtain ⟨k12, hf⟩ := xk_of hf
      refine x_iald (n := 6) (f := uF12) hc hw co_251 k12 dX8_clearRings_28 ?_
      refine lv_aload_n hx hb dX8_clearRings_29 rfl (lv_at hl 0 rfl) ?_
      refine x_get (v := .ref (xAd κ 251)) hc hw co_245 fX8_30 rfl dX8_clearRings_30 ?_
      refine lv_iconst (v := 0) hx hb dX8_clearRings_33 (by decide) ?_
      obtain ⟨k13, hf⟩ := xk_of hf
      refine x_iald (n := 6) (f := uF12) hc hw co_251 k13 dX8_clearRings_34 ?_
      obtain ⟨v14, h15, hf⟩ := xb1_of hf
      refine x_calllV (As := [.int (uF12 (x3 - 1).toNatClampNeg), .int (uF12 (0 : Int32).toNatClampNeg)]) (rest := []) (σ' := (wA, wT, wG, wM, (uF0, uF1, uF2, uF3, uF4, uF5, uF6, uF7, uF8, uF9, uF10, uF11, uF12, uF13, uF14, uF15, uF16, uF17, uF18), wO)) hc hw hl.1 (m_X8_owedBy h15) kX8_196 co_245 rfl rfl ⟨rfl, rfl⟩ ⟨Nat.le_of_ble_eq_true rfl, Nat.le_of_ble_eq_true rfl⟩ ⟨Nat.zero_le _, Nat.zero_le _⟩ (Nat.le_of_ble_eq_true rfl) dX8_clearRings_35 (fun H locs hw => ?_)
      refine lv_lstore (lv' := [(4, .long v14), (0, .ref (xAd κ 245)), (1, .long x1), (3, .int x3)]) hx hb dX8_clearRings_38 hl (by decide) rfl (fun ls hl => ?_)
      refine lv_iconst (v := 0) hx hb dX8_clearRings_40 (by decide) ?_
      refine lv_istore (lv' := [(6, .int 0), (4, .long v14), (0, .ref (xAd κ 245)), (1, .long x1), (3, .int x3)]) hx hb dX8_clearRings_41 hl (by decide) rfl (fun ls hl => ?_)
      refine l_X8_clearRings_43 hc K (fun n23 n24 n25 uF0_26 uF1_27 uF3_28 uF4_29 uF5_30 uF12_31 H locs ls hf hw hl => ?_) fu _ _ _ _ _ _ _ _ _ _ _ _ _ hf hw (lv_sub hl [2, 3, 4, 1, 0] rfl)
      refine lv_iconst (v := 0) hx hb dX8_clearRings_84 (by decide) ?_
      refine lv_istore (lv' := [(6, .int 0), (0, .ref (xAd κ 245)), (1, .long n23), (3, .int n24), (4, .long n25)]) hx hb dX8_clearRings_85 hl (by decide) rfl (fun ls hl => ?_)
      refine l_X8_clearRings_87 hc K (fun n38 n39 n40 uF0_41 uF1_42 uF3_43 uF4_44 uF5_45 uF12_46 H locs ls hf hw hl => ?_) fu _ _ _ _ _ _ _ _ _ _ _ _ _ hf hw (lv_sub hl [1, 2, 3, 4, 0] rfl)
      refine lv_lload_n hx hb dX8_clearRings_123 rfl (lv_at hl 1 rfl) ?_
      refine lv_lload hx hb dX8_clearRings_124 (lv_at hl 3 rfl) ?_
      refine lv_iload_n hx hb dX8_clearRings_126 rfl (lv_at hl 2 rfl) ?_
      refine lv_i2l (v := n39.toInt64) hx hb dX8_clearRings_127 rfl ?_
      refine lv_lmul hx hb dX8_clearRings_128 ?_
      refine lv_ladd hx hb dX8_clearRings_129 ?_
      refine lv_lstore_n (lv' := [(1, .long (n38 + (n40 * n39.toInt64))), (0, .ref (xAd κ 245)), (3, .int n39), (4, .long n40)]) hx hb dX8_clearRings_130 rfl hl (by decide) rfl (fun ls hl => ?_)
      refine lv_aload_n hx hb dX8_clearRings_131 rfl (lv_at hl 1 rfl) ?_
      obtain ⟨v47, uF12_48, h49, hf⟩ := xb2_of hf
      refine x_calliV (As := []) (rest := []) (σ' := (wA, wT, wG, wM, (uF0_41, uF1_42, uF2, uF3_43, uF4_44, uF5_45, uF6, uF7, uF8, uF9, uF10, uF11, uF12_48, uF13, uF14, uF15, uF16, uF17, uF18), wO)) hc hw hl.1 (m_X8_firstRing h49) kX8_243 co_245 rfl rfl ⟨rfl, rfl⟩ ⟨Nat.le_of_ble_eq_true rfl, Nat.le_of_ble_eq_true rfl⟩ ⟨Nat.zero_le _, Nat.zero_le _⟩ (Nat.le_of_ble_eq_true rfl) dX8_clearRings_132 (fun H locs hw => ?_)
      refine lv_istore_n (lv' := [(3, .int v47), (1, .long (n38 + (n40 * n39.toInt64))), (0, .ref (xAd κ 245)), (4, .long n40)]) hx hb dX8_clearRings_135 rfl hl (by decide) rfl (fun ls hl => ?_)
      refine lv_goto (tgt := 16) hx hb dX8_clearRings_136 (by decide) ?_
      exact hi _ _ _ _ _ _ _ _ _ _ _ hf hw (lv_sub hl [2, 1, 0] rfl)
set_option maxHeartbeats 4000000 in
set_option maxRecDepth 100000 in
theorem m_X8_clearRings {l : Launch} {κ : xKt} {wA : Nat → sAcc} {wT : sTxt} {wG : sRng} {wM : sMai} {wO : sOut} {fu : Nat} {uF0 : Int32} {uF1 : xF64} {uF2 : xF64} {uF3 : xF64} {uF4 : xF64} {uF5 : Int32} {uF6 : Int32} {uF7 : Int32} {uF8 : xF32} {uF9 : Int32} {uF10 : Int32} {uF11 : Int64} {uF12 : xF32} {uF13 : Int32} {uF14 : Int32} {uF15 : Int32} {uF16 : xF32} {uF17 : xF32} {uF18 : Int32} {rr : Int64} {yF0 : Int32} {yF1 : xF64} {yF3 : xF64} {yF4 : xF64} {yF5 : Int32} {yF12 : xF32} (hf : f_X8_clearRings fu uF0 uF1 uF3 uF4 uF5 uF12 = some (rr, yF0, yF1, yF3, yF4, yF5, yF12)) : xMl l κ yX8_clearRings cX8_clearRings 7 (some .long) (xR 6 0 0) [.ref (xAd κ 245)] (wA, wT, wG, wM, (uF0, uF1, uF2, uF3, uF4, uF5, uF6, uF7, uF8, uF9, uF10, uF11, uF12, uF13, uF14, uF15, uF16, uF17, uF18), wO) (wA, wT, wG, wM, (yF0, yF1, uF2, yF3, yF4, yF5, uF6, uF7, uF8, uF9, uF10, uF11, yF12, uF13, uF14, uF15, uF16, uF17, uF18), wO) rr := by
  unfold f_X8_clearRings at hf
  refine xMl_of pn_X8 (Nat.le_of_ble_eq_true rfl) ⟨rfl, rfl⟩ ?_
  intro A p e s m args below meth c ls Q hc hw hl K
  have hc : xC κ A p s m args meth c cX8_clearRings RX8 7 (some .long) := hc
  have hx := hc.1.1
  have hb := hc.1.2.1
  have hl : lv_has ls 7 [(0, .ref (xAd κ 245))] := hl
  refine lv_aload_n hx hb dX8_clearRings_0 rfl (lv_at hl 0 rfl) ?_
  refine lv_iconst (v := 0) hx hb dX8_clearRings_1 (by decide) ?_
  refine x_put (σ' := (wA, wT, wG, wM, (0, uF1, uF2, uF3, uF4, uF5, uF6, uF7, uF8, uF9, uF10, uF11, uF12, uF13, uF14, uF15, uF16, uF17, uF18), wO)) hc hw co_245 fX8_42 rfl rfl (Nat.le_of_ble_eq_true rfl) so_F_0 dX8_clearRings_2 (fun H locs hw => ?_)
  refine lv_aload_n hx hb dX8_clearRings_5 rfl (lv_at hl 0 rfl) ?_
  obtain ⟨uF3_1, h2, hf⟩ := xb1_of hf
  refine x_callvV (As := []) (rest := []) (σ' := (wA, wT, wG, wM, (0, uF1, uF2, uF3_1, uF4, uF5, uF6, uF7, uF8, uF9, uF10, uF11, uF12, uF13, uF14, uF15, uF16, uF17, uF18), wO)) hc hw hl.1 (m_X8_remembers h2) kX8_76 co_245 rfl rfl ⟨rfl, rfl⟩ ⟨Nat.le_of_ble_eq_true rfl, Nat.le_of_ble_eq_true rfl⟩ ⟨Nat.zero_le _, Nat.zero_le _⟩ (Nat.le_of_ble_eq_true rfl) dX8_clearRings_6 (fun H locs hw => ?_)
  refine lv_lconst (v := 0) hx hb dX8_clearRings_9 (by decide) ?_
  refine lv_lstore_n (lv' := [(1, .long 0), (0, .ref (xAd κ 245))]) hx hb dX8_clearRings_10 rfl hl (by decide) rfl (fun ls hl => ?_)
  refine lv_aload_n hx hb dX8_clearRings_11 rfl (lv_at hl 1 rfl) ?_
  obtain ⟨v3, uF12_4, h5, hf⟩ := xb2_of hf
  refine x_calliV (As := []) (rest := []) (σ' := (wA, wT, wG, wM, (0, uF1, uF2, uF3_1, uF4, uF5, uF6, uF7, uF8, uF9, uF10, uF11, uF12_4, uF13, uF14, uF15, uF16, uF17, uF18), wO)) hc hw hl.1 (m_X8_firstRing h5) kX8_243 co_245 rfl rfl ⟨rfl, rfl⟩ ⟨Nat.le_of_ble_eq_true rfl, Nat.le_of_ble_eq_true rfl⟩ ⟨Nat.zero_le _, Nat.zero_le _⟩ (Nat.le_of_ble_eq_true rfl) dX8_clearRings_12 (fun H locs hw => ?_)
  refine lv_istore_n (lv' := [(3, .int v3), (1, .long 0), (0, .ref (xAd κ 245))]) hx hb dX8_clearRings_15 rfl hl (by decide) rfl (fun ls hl => ?_)
  exact l_X8_clearRings_16 hc K fu _ _ _ _ _ _ _ _ _ _ _ hf hw (lv_sub hl [2, 1, 0] rfl)
def f_X8_net (fu : Nat) (x1 : Int32) (uF0 : Int32) (uF1 : xF64) : Option (Int64 × Int32) :=
  xb1 (f_X8_isParty x1 uF1) fun v1 => (if v1 = 0 then (xb2 (f_X8_failsLong 1 0) fun v4 uF0_5 => (some (v4, uF0_5))) else (xb1 (f_X8_allOwed fu x1 1 uF1) fun v7 => (xb1 (f_X8_allOwed fu x1 0 uF1) fun v9 => (some ((v7 - v9), 0)))))
set_option maxHeartbeats 4000000 in
set_option maxRecDepth 100000 in
theorem m_X8_net {l : Launch} {κ : xKt} {wA : Nat → sAcc} {wT : sTxt} {wG : sRng} {wM : sMai} {wO : sOut} {fu : Nat} {x1 : Int32} {uF0 : Int32} {uF1 : xF64} {uF2 : xF64} {uF3 : xF64} {uF4 : xF64} {uF5 : Int32} {uF6 : Int32} {uF7 : Int32} {uF8 : xF32} {uF9 : Int32} {uF10 : Int32} {uF11 : Int64} {uF12 : xF32} {uF13 : Int32} {uF14 : Int32} {uF15 : Int32} {uF16 : xF32} {uF17 : xF32} {uF18 : Int32} {rr : Int64} {yF0 : Int32} (hf : f_X8_net fu x1 uF0 uF1 = some (rr, yF0)) : xMl l κ yX8_net cX8_net 2 (some .long) (xR 3 0 0) [.ref (xAd κ 245), .int x1] (wA, wT, wG, wM, (uF0, uF1, uF2, uF3, uF4, uF5, uF6, uF7, uF8, uF9, uF10, uF11, uF12, uF13, uF14, uF15, uF16, uF17, uF18), wO) (wA, wT, wG, wM, (yF0, uF1, uF2, uF3, uF4, uF5, uF6, uF7, uF8, uF9, uF10, uF11, uF12, uF13, uF14, uF15, uF16, uF17, uF18), wO) rr := by
  unfold f_X8_net at hf
  refine xMl_of pn_X8 (Nat.le_of_ble_eq_true rfl) ⟨rfl, rfl⟩ ?_
  intro A p e s m args below meth c ls Q hc hw hl K
  have hc : xC κ A p s m args meth c cX8_net RX8 2 (some .long) := hc
  have hx := hc.1.1
  have hb := hc.1.2.1
  have hl : lv_has ls 2 [(0, .ref (xAd κ 245)), (1, .int x1)] := hl
  refine lv_aload_n hx hb dX8_net_0 rfl (lv_at hl 0 rfl) ?_
  refine lv_iconst (v := 0) hx hb dX8_net_1 (by decide) ?_
  refine x_put (σ' := (wA, wT, wG, wM, (0, uF1, uF2, uF3, uF4, uF5, uF6, uF7, uF8, uF9, uF10, uF11, uF12, uF13, uF14, uF15, uF16, uF17, uF18), wO)) hc hw co_245 fX8_42 rfl rfl (Nat.le_of_ble_eq_true rfl) so_F_0 dX8_net_2 (fun H locs hw => ?_)
  refine lv_aload_n hx hb dX8_net_5 rfl (lv_at hl 0 rfl) ?_
  refine lv_iload_n hx hb dX8_net_6 rfl (lv_at hl 1 rfl) ?_
  obtain ⟨v1, h2, hf⟩ := xb1_of hf
  refine x_calliV (As := [.int x1]) (rest := []) (σ' := (wA, wT, wG, wM, (0, uF1, uF2, uF3, uF4, uF5, uF6, uF7, uF8, uF9, uF10, uF11, uF12, uF13, uF14, uF15, uF16, uF17, uF18), wO)) hc hw hl.1 (m_X8_isParty h2) kX8_149 co_245 rfl rfl ⟨rfl, rfl⟩ ⟨Nat.le_of_ble_eq_true rfl, Nat.le_of_ble_eq_true rfl⟩ ⟨Nat.zero_le _, Nat.zero_le _⟩ (Nat.le_of_ble_eq_true rfl) dX8_net_7 (fun H locs hw => ?_)
  refine lv_if_eq (tgt := 29) hx hb dX8_net_10 (by decide) (fun c3 => ?_) (fun c3 => ?_)
  · have hf := xif_t c3 hf
    refine lv_aload_n hx hb dX8_net_29 rfl (lv_at hl 0 rfl) ?_
    refine lv_iconst (v := 1) hx hb dX8_net_30 (by decide) ?_
    obtain ⟨v4, uF0_5, h6, hf⟩ := xb2_of hf
    refine x_calllV (As := [.int 1]) (rest := []) (σ' := (wA, wT, wG, wM, (uF0_5, uF1, uF2, uF3, uF4, uF5, uF6, uF7, uF8, uF9, uF10, uF11, uF12, uF13, uF14, uF15, uF16, uF17, uF18), wO)) hc hw hl.1 (m_X8_failsLong h6) kX8_153 co_245 rfl rfl ⟨rfl, rfl⟩ ⟨Nat.le_of_ble_eq_true rfl, Nat.le_of_ble_eq_true rfl⟩ ⟨Nat.zero_le _, Nat.zero_le _⟩ (Nat.le_of_ble_eq_true rfl) dX8_net_31 (fun H locs hw => ?_)
    cases hf
    exact K _ _ _ _ dX8_net_34 hw
  · have hf := xif_f c3 hf
    refine lv_aload_n hx hb dX8_net_13 rfl (lv_at hl 0 rfl) ?_
    refine lv_iload_n hx hb dX8_net_14 rfl (lv_at hl 1 rfl) ?_
    refine lv_iconst (v := 1) hx hb dX8_net_15 (by decide) ?_
    obtain ⟨v7, h8, hf⟩ := xb1_of hf
    refine x_calllV (As := [.int x1, .int 1]) (rest := []) (σ' := (wA, wT, wG, wM, (0, uF1, uF2, uF3, uF4, uF5, uF6, uF7, uF8, uF9, uF10, uF11, uF12, uF13, uF14, uF15, uF16, uF17, uF18), wO)) hc hw hl.1 (m_X8_allOwed h8) kX8_165 co_245 rfl rfl ⟨rfl, rfl⟩ ⟨Nat.le_of_ble_eq_true rfl, Nat.le_of_ble_eq_true rfl⟩ ⟨Nat.zero_le _, Nat.zero_le _⟩ (Nat.le_of_ble_eq_true rfl) dX8_net_16 (fun H locs hw => ?_)
    refine lv_aload_n hx hb dX8_net_19 rfl (lv_at hl 0 rfl) ?_
    refine lv_iload_n hx hb dX8_net_20 rfl (lv_at hl 1 rfl) ?_
    refine lv_iconst (v := 0) hx hb dX8_net_21 (by decide) ?_
    obtain ⟨v9, h10, hf⟩ := xb1_of hf
    refine x_calllV (As := [.int x1, .int 0]) (rest := [.long v7]) (σ' := (wA, wT, wG, wM, (0, uF1, uF2, uF3, uF4, uF5, uF6, uF7, uF8, uF9, uF10, uF11, uF12, uF13, uF14, uF15, uF16, uF17, uF18), wO)) hc hw hl.1 (m_X8_allOwed h10) kX8_165 co_245 rfl rfl ⟨rfl, rfl⟩ ⟨Nat.le_of_ble_eq_true rfl, Nat.le_of_ble_eq_true rfl⟩ ⟨Nat.zero_le _, Nat.zero_le _⟩ (Nat.le_of_ble_eq_true rfl) dX8_net_22 (fun H locs hw => ?_)
    refine lv_lsub hx hb dX8_net_25 ?_
    refine lv_goto (tgt := 34) hx hb dX8_net_26 (by decide) ?_
    cases hf
    exact K _ _ _ _ dX8_net_34 hw
def f_X8_growsTo_86 (fu : Nat) (uF1 : xF64) : Nat → (Int32) → (Int64) → (Int64) → (Int64) → (Int32) → (Int32) → Option (Int32 × Int32)
  | 0, _, _, _, _, _, _ => none
  | n + 1, x2, x3, x5, x7, x9, uF0 => if 3650 < x9 then (xb2 (f_X8_fails 3 uF0) fun v18 uF0_19 => (some (v18, uF0_19))) else (if x5 < x2.toInt64 then (f_X8_growsTo_86 fu uF1 n x2 ((x3 + x7) - (x3 + x7) / 3600000 * 3600000) (x5 + ((x3 + x7) / 3600000)) x7 (x9 + 1) uF0) else (some (x9, uF0)))
def f_X8_growsTo (fu : Nat) (x1 : Int32) (x2 : Int32) (uF0 : Int32) (uF1 : xF64) : Option (Int32 × Int32) :=
  xb1 (f_X8_isDebt x1 uF1) fun v1 => (if v1 = 0 then (xb2 (f_X8_fails 1 0) fun v25 uF0_26 => (some (v25, uF0_26))) else (xb1 (f_X8_in x2 1 1000000000) fun v4 => (if v4 = 0 then (xb2 (f_X8_fails 2 0) fun v22 uF0_23 => (some (v22, uF0_23))) else (xb1 (f_X8_debtAt x1 4) fun v7 => (xk (xin v7 304) (xb1 (f_X8_owing x1 uF1) fun v10 => (xb1 (f_X8_debtAt x1 2) fun v12 => (xk (xin v12 304) (xk (xin 1 304) (xk (xin (6 + (uF1 (1 : Int32).toNatClampNeg).toInt32) 304) (f_X8_growsTo_86 fu uF1 fu x2 (uF1 v7.toNatClampNeg) v10 ((uF1 v12.toNatClampNeg) * (uF1 (6 + (uF1 (1 : Int32).toNatClampNeg).toInt32).toNatClampNeg)) 0 0)))))))))))
set_option maxHeartbeats 4000000 in
set_option maxRecDepth 100000 in
theorem l_X8_growsTo_86 {l : Launch} {κ : xKt} {wA : Nat → sAcc} {wT : sTxt} {wG : sRng} {wM : sMai} {wO : sOut} {fu : Nat} {uF1 : xF64} {uF2 : xF64} {uF3 : xF64} {uF4 : xF64} {uF5 : Int32} {uF6 : Int32} {uF7 : Int32} {uF8 : xF32} {uF9 : Int32} {uF10 : Int32} {uF11 : Int64} {uF12 : xF32} {uF13 : Int32} {uF14 : Int32} {uF15 : Int32} {uF16 : xF32} {uF17 : xF32} {uF18 : Int32} {A : Nat → Prop} {p : Program} {e : Env} {s : State} {m : MethodId} {args : Array Value} {below : List Frame} {meth : Method} {c : Code} {Q : State → Prop} {rr : Int32} {yF0 : Int32}
    (hc : xC κ A p s m args meth c cX8_growsTo RX8 10 (some .int))
    (K : ∀ (pc : Nat) (ls : Array Slot) (H : Heap) (locs : List Loc), decode cX8_growsTo pc = .ok (.ireturn, 1) → narrow .int (.int rr) = .int rr → xW κ A s (wA, wT, wG, wM, (yF0, uF1, uF2, uF3, uF4, uF5, uF6, uF7, uF8, uF9, uF10, uF11, uF12, uF13, uF14, uF15, uF16, uF17, uF18), wO) H locs → W p l e (xR 2 0 0) s m args below meth c H locs 0 0 Q (F0 m pc ls [.int rr])) :
    ∀ (n : Nat) (x2 : Int32) (x3 : Int64) (x5 : Int64) (x7 : Int64) (x9 : Int32) (uF0 : Int32) (H : Heap) (locs : List Loc) (ls : Array Slot), f_X8_growsTo_86 fu uF1 n x2 x3 x5 x7 x9 uF0 = some (rr, yF0) → xW κ A s (wA, wT, wG, wM, (uF0, uF1, uF2, uF3, uF4, uF5, uF6, uF7, uF8, uF9, uF10, uF11, uF12, uF13, uF14, uF15, uF16, uF17, uF18), wO) H locs → lv_has ls 10 [(0, .ref (xAd κ 245)), (2, .int x2), (3, .long x3), (5, .long x5), (7, .long x7), (9, .int x9)] → W p l e (xR 2 0 0) s m args below meth c H locs 0 0 Q (F0 m 86 ls []) := by
  have hx := hc.1.1
  have hb := hc.1.2.1
  intro n
  induction n with
  | zero =>
    intro x2 x3 x5 x7 x9 uF0 H locs ls hf
    rw [f_X8_growsTo_86] at hf
    cases hf
  | succ n hi =>
    intro x2 x3 x5 x7 x9 uF0 H locs ls hf hw hl
    rw [f_X8_growsTo_86] at hf
    refine lv_iload hx hb dX8_growsTo_86 (lv_at hl 5 rfl) ?_
    refine lv_sipush (v := 3650) hx hb dX8_growsTo_88 (by decide) ?_
    refine lv_icmp_gt (tgt := 132) hx hb dX8_growsTo_91 (by decide) (fun c17 => ?_) (fun c17 => ?_)
    · have hf := xif_t c17 hf
      refine lv_aload_n hx hb dX8_growsTo_132 rfl (lv_at hl 0 rfl) ?_
      refine lv_iconst (v := 3) hx hb dX8_growsTo_133 (by decide) ?_
      obtain ⟨v18, uF0_19, h20, hf⟩ := xb2_of hf
      refine x_calliV (As := [.int 3]) (rest := []) (σ' := (wA, wT, wG, wM, (uF0_19, uF1, uF2, uF3, uF4, uF5, uF6, uF7, uF8, uF9, uF10, uF11, uF12, uF13, uF14, uF15, uF16, uF17, uF18), wO)) hc hw hl.1 (m_X8_fails h20) kX8_79 co_245 rfl rfl ⟨rfl, rfl⟩ ⟨Nat.le_of_ble_eq_true rfl, Nat.le_of_ble_eq_true rfl⟩ ⟨Nat.zero_le _, Nat.zero_le _⟩ (Nat.le_of_ble_eq_true rfl) dX8_growsTo_134 (fun H locs hw => ?_)
      cases hf
      exact K _ _ _ _ dX8_growsTo_137 rfl hw
    · have hf := xif_f c17 hf
      refine lv_lload hx hb dX8_growsTo_94 (lv_at hl 3 rfl) ?_
      refine lv_iload_n hx hb dX8_growsTo_96 rfl (lv_at hl 1 rfl) ?_
      refine lv_i2l (v := x2.toInt64) hx hb dX8_growsTo_97 rfl ?_
      refine x_lcmp_lt (tgt := 105) hx hb dX8_growsTo_98 dX8_growsTo_99 (by decide) (fun c21 => ?_) (fun c21 => ?_)
      · have hf := xif_t c21 hf
        refine lv_lload_n hx hb dX8_growsTo_105 rfl (lv_at hl 2 rfl) ?_
        refine lv_lload hx hb dX8_growsTo_106 (lv_at hl 4 rfl) ?_
        refine lv_ladd hx hb dX8_growsTo_108 ?_
        refine lv_lstore_n (lv' := [(3, .long (x3 + x7)), (0, .ref (xAd κ 245)), (2, .int x2), (5, .long x5), (7, .long x7), (9, .int x9)]) hx hb dX8_growsTo_109 rfl hl (by decide) rfl (fun ls hl => ?_)
        refine lv_lload hx hb dX8_growsTo_110 (lv_at hl 3 rfl) ?_
        refine lv_lload_n hx hb dX8_growsTo_112 rfl (lv_at hl 0 rfl) ?_
        refine x_ldc2 hc w_constantLong_RX8_203_3600000 dX8_growsTo_113 ?_
        refine lv_ldiv hx hb dX8_growsTo_116 (by decide) ?_
        refine lv_ladd hx hb dX8_growsTo_117 ?_
        refine lv_lstore (lv' := [(5, .long (x5 + ((x3 + x7) / 3600000))), (3, .long (x3 + x7)), (0, .ref (xAd κ 245)), (2, .int x2), (7, .long x7), (9, .int x9)]) hx hb dX8_growsTo_118 hl (by decide) rfl (fun ls hl => ?_)
        refine lv_lload_n hx hb dX8_growsTo_120 rfl (lv_at hl 1 rfl) ?_
        refine x_ldc2 hc w_constantLong_RX8_203_3600000 dX8_growsTo_121 ?_
        refine lv_lrem hx hb dX8_growsTo_124 (by decide) ?_
        refine lv_lstore_n (lv' := [(3, .long ((x3 + x7) - (x3 + x7) / 3600000 * 3600000)), (5, .long (x5 + ((x3 + x7) / 3600000))), (0, .ref (xAd κ 245)), (2, .int x2), (7, .long x7), (9, .int x9)]) hx hb dX8_growsTo_125 rfl hl (by decide) rfl (fun ls hl => ?_)
        refine lv_iinc (v := (x9 + 1)) (lv' := [(9, .int (x9 + 1)), (3, .long ((x3 + x7) - (x3 + x7) / 3600000 * 3600000)), (5, .long (x5 + ((x3 + x7) / 3600000))), (0, .ref (xAd κ 245)), (2, .int x2), (7, .long x7)]) hx hb dX8_growsTo_126 hl (k := 5) rfl rfl (by decide) rfl (fun ls hl => ?_)
        refine lv_goto (tgt := 86) hx hb dX8_growsTo_129 (by decide) ?_
        exact hi _ _ _ _ _ _ _ _ _ hf hw (lv_sub hl [3, 4, 1, 2, 5, 0] rfl)
      · have hf := xif_f c21 hf
        refine lv_iload hx hb dX8_growsTo_102 (lv_at hl 5 rfl) ?_
        cases hf
        exact K _ _ _ _ dX8_growsTo_104 rfl hw
set_option maxHeartbeats 4000000 in
set_option maxRecDepth 100000 in
theorem m_X8_growsTo {l : Launch} {κ : xKt} {wA : Nat → sAcc} {wT : sTxt} {wG : sRng} {wM : sMai} {wO : sOut} {fu : Nat} {x1 : Int32} {x2 : Int32} {uF0 : Int32} {uF1 : xF64} {uF2 : xF64} {uF3 : xF64} {uF4 : xF64} {uF5 : Int32} {uF6 : Int32} {uF7 : Int32} {uF8 : xF32} {uF9 : Int32} {uF10 : Int32} {uF11 : Int64} {uF12 : xF32} {uF13 : Int32} {uF14 : Int32} {uF15 : Int32} {uF16 : xF32} {uF17 : xF32} {uF18 : Int32} {rr : Int32} {yF0 : Int32} (hf : f_X8_growsTo fu x1 x2 uF0 uF1 = some (rr, yF0)) : xMi l κ yX8_growsTo cX8_growsTo 10 (some .int) (xR 2 0 0) [.ref (xAd κ 245), .int x1, .int x2] (wA, wT, wG, wM, (uF0, uF1, uF2, uF3, uF4, uF5, uF6, uF7, uF8, uF9, uF10, uF11, uF12, uF13, uF14, uF15, uF16, uF17, uF18), wO) (wA, wT, wG, wM, (yF0, uF1, uF2, uF3, uF4, uF5, uF6, uF7, uF8, uF9, uF10, uF11, uF12, uF13, uF14, uF15, uF16, uF17, uF18), wO) rr := by
  unfold f_X8_growsTo at hf
  refine xMi_of pn_X8 (Nat.le_of_ble_eq_true rfl) ⟨rfl, rfl⟩ ?_
  intro A p e s m args below meth c ls Q hc hw hl K
  have hc : xC κ A p s m args meth c cX8_growsTo RX8 10 (some .int) := hc
  have hx := hc.1.1
  have hb := hc.1.2.1
  have hl : lv_has ls 10 [(0, .ref (xAd κ 245)), (1, .int x1), (2, .int x2)] := hl
  refine lv_aload_n hx hb dX8_growsTo_0 rfl (lv_at hl 0 rfl) ?_
  refine lv_iconst (v := 0) hx hb dX8_growsTo_1 (by decide) ?_
  refine x_put (σ' := (wA, wT, wG, wM, (0, uF1, uF2, uF3, uF4, uF5, uF6, uF7, uF8, uF9, uF10, uF11, uF12, uF13, uF14, uF15, uF16, uF17, uF18), wO)) hc hw co_245 fX8_42 rfl rfl (Nat.le_of_ble_eq_true rfl) so_F_0 dX8_growsTo_2 (fun H locs hw => ?_)
  refine lv_aload_n hx hb dX8_growsTo_5 rfl (lv_at hl 0 rfl) ?_
  refine lv_iload_n hx hb dX8_growsTo_6 rfl (lv_at hl 1 rfl) ?_
  obtain ⟨v1, h2, hf⟩ := xb1_of hf
  refine x_calliV (As := [.int x1]) (rest := []) (σ' := (wA, wT, wG, wM, (0, uF1, uF2, uF3, uF4, uF5, uF6, uF7, uF8, uF9, uF10, uF11, uF12, uF13, uF14, uF15, uF16, uF17, uF18), wO)) hc hw hl.1 (m_X8_isDebt h2) kX8_227 co_245 rfl rfl ⟨rfl, rfl⟩ ⟨Nat.le_of_ble_eq_true rfl, Nat.le_of_ble_eq_true rfl⟩ ⟨Nat.zero_le _, Nat.zero_le _⟩ (Nat.le_of_ble_eq_true rfl) dX8_growsTo_7 (fun H locs hw => ?_)
  refine lv_if_ne (tgt := 19) hx hb dX8_growsTo_10 (by decide) (fun c3 => ?_) (fun c3 => ?_)
  · have hf := xif_f c3 hf
    refine lv_iload_n hx hb dX8_growsTo_19 rfl (lv_at hl 2 rfl) ?_
    refine lv_iconst (v := 1) hx hb dX8_growsTo_20 (by decide) ?_
    refine x_ldc hc w_constant_RX8_246_1000000000 dX8_growsTo_21 ?_
    obtain ⟨v4, h5, hf⟩ := xb1_of hf
    refine x_calliS (As := [.int x2, .int 1, .int 1000000000]) (rest := []) (σ' := (wA, wT, wG, wM, (0, uF1, uF2, uF3, uF4, uF5, uF6, uF7, uF8, uF9, uF10, uF11, uF12, uF13, uF14, uF15, uF16, uF17, uF18), wO)) hc hw hl.1 (m_X8_in h5) kX8_63 rfl rfl ⟨rfl, rfl⟩ ⟨Nat.le_of_ble_eq_true rfl, Nat.le_of_ble_eq_true rfl⟩ ⟨Nat.zero_le _, Nat.zero_le _⟩ (Nat.le_of_ble_eq_true rfl) dX8_growsTo_23 (fun H locs hw => ?_)
    refine lv_if_ne (tgt := 35) hx hb dX8_growsTo_26 (by decide) (fun c6 => ?_) (fun c6 => ?_)
    · have hf := xif_f c6 hf
      refine lv_aload_n hx hb dX8_growsTo_35 rfl (lv_at hl 0 rfl) ?_
      refine x_get (v := .ref (xAd κ 246)) hc hw co_245 fX8_7 rfl dX8_growsTo_36 ?_
      refine lv_aload_n hx hb dX8_growsTo_39 rfl (lv_at hl 0 rfl) ?_
      refine lv_iload_n hx hb dX8_growsTo_40 rfl (lv_at hl 1 rfl) ?_
      refine lv_iconst (v := 4) hx hb dX8_growsTo_41 (by decide) ?_
      obtain ⟨v7, h8, hf⟩ := xb1_of hf
      refine x_calliV (As := [.int x1, .int 4]) (rest := [.ref (xAd κ 246)]) (σ' := (wA, wT, wG, wM, (0, uF1, uF2, uF3, uF4, uF5, uF6, uF7, uF8, uF9, uF10, uF11, uF12, uF13, uF14, uF15, uF16, uF17, uF18), wO)) hc hw hl.1 (m_X8_debtAt h8) kX8_140 co_245 rfl rfl ⟨rfl, rfl⟩ ⟨Nat.le_of_ble_eq_true rfl, Nat.le_of_ble_eq_true rfl⟩ ⟨Nat.zero_le _, Nat.zero_le _⟩ (Nat.le_of_ble_eq_true rfl) dX8_growsTo_42 (fun H locs hw => ?_)
      obtain ⟨k9, hf⟩ := xk_of hf
      refine x_lald (n := 304) (f := uF1) hc hw co_246 k9 dX8_growsTo_45 ?_
      refine lv_lstore_n (lv' := [(3, .long (uF1 v7.toNatClampNeg)), (0, .ref (xAd κ 245)), (1, .int x1), (2, .int x2)]) hx hb dX8_growsTo_46 rfl hl (by decide) rfl (fun ls hl => ?_)
      refine lv_aload_n hx hb dX8_growsTo_47 rfl (lv_at hl 1 rfl) ?_
      refine lv_iload_n hx hb dX8_growsTo_48 rfl (lv_at hl 2 rfl) ?_
      obtain ⟨v10, h11, hf⟩ := xb1_of hf
      refine x_calllV (As := [.int x1]) (rest := []) (σ' := (wA, wT, wG, wM, (0, uF1, uF2, uF3, uF4, uF5, uF6, uF7, uF8, uF9, uF10, uF11, uF12, uF13, uF14, uF15, uF16, uF17, uF18), wO)) hc hw hl.1 (m_X8_owing h11) kX8_146 co_245 rfl rfl ⟨rfl, rfl⟩ ⟨Nat.le_of_ble_eq_true rfl, Nat.le_of_ble_eq_true rfl⟩ ⟨Nat.zero_le _, Nat.zero_le _⟩ (Nat.le_of_ble_eq_true rfl) dX8_growsTo_49 (fun H locs hw => ?_)
      refine lv_lstore (lv' := [(5, .long v10), (3, .long (uF1 v7.toNatClampNeg)), (0, .ref (xAd κ 245)), (1, .int x1), (2, .int x2)]) hx hb dX8_growsTo_52 hl (by decide) rfl (fun ls hl => ?_)
      refine lv_aload_n hx hb dX8_growsTo_54 rfl (lv_at hl 2 rfl) ?_
      refine x_get (v := .ref (xAd κ 246)) hc hw co_245 fX8_7 rfl dX8_growsTo_55 ?_
      refine lv_aload_n hx hb dX8_growsTo_58 rfl (lv_at hl 2 rfl) ?_
      refine lv_iload_n hx hb dX8_growsTo_59 rfl (lv_at hl 3 rfl) ?_
      refine lv_iconst (v := 2) hx hb dX8_growsTo_60 (by decide) ?_
      obtain ⟨v12, h13, hf⟩ := xb1_of hf
      refine x_calliV (As := [.int x1, .int 2]) (rest := [.ref (xAd κ 246)]) (σ' := (wA, wT, wG, wM, (0, uF1, uF2, uF3, uF4, uF5, uF6, uF7, uF8, uF9, uF10, uF11, uF12, uF13, uF14, uF15, uF16, uF17, uF18), wO)) hc hw hl.1 (m_X8_debtAt h13) kX8_140 co_245 rfl rfl ⟨rfl, rfl⟩ ⟨Nat.le_of_ble_eq_true rfl, Nat.le_of_ble_eq_true rfl⟩ ⟨Nat.zero_le _, Nat.zero_le _⟩ (Nat.le_of_ble_eq_true rfl) dX8_growsTo_61 (fun H locs hw => ?_)
      obtain ⟨k14, hf⟩ := xk_of hf
      refine x_lald (n := 304) (f := uF1) hc hw co_246 k14 dX8_growsTo_64 ?_
      refine lv_aload_n hx hb dX8_growsTo_65 rfl (lv_at hl 2 rfl) ?_
      refine x_get (v := .ref (xAd κ 246)) hc hw co_245 fX8_7 rfl dX8_growsTo_66 ?_
      refine lv_bipush (v := 6) hx hb dX8_growsTo_69 (by decide) ?_
      refine lv_aload_n hx hb dX8_growsTo_71 rfl (lv_at hl 2 rfl) ?_
      refine x_get (v := .ref (xAd κ 246)) hc hw co_245 fX8_7 rfl dX8_growsTo_72 ?_
      refine lv_iconst (v := 1) hx hb dX8_growsTo_75 (by decide) ?_
      obtain ⟨k15, hf⟩ := xk_of hf
      refine x_lald (n := 304) (f := uF1) hc hw co_246 k15 dX8_growsTo_76 ?_
      refine lv_l2i (v := (uF1 (1 : Int32).toNatClampNeg).toInt32) hx hb dX8_growsTo_77 rfl ?_
      refine lv_iadd hx hb dX8_growsTo_78 ?_
      obtain ⟨k16, hf⟩ := xk_of hf
      refine x_lald (n := 304) (f := uF1) hc hw co_246 k16 dX8_growsTo_79 ?_
      refine lv_lmul hx hb dX8_growsTo_80 ?_
      refine lv_lstore (lv' := [(7, .long ((uF1 v12.toNatClampNeg) * (uF1 (6 + (uF1 (1 : Int32).toNatClampNeg).toInt32).toNatClampNeg))), (5, .long v10), (3, .long (uF1 v7.toNatClampNeg)), (0, .ref (xAd κ 245)), (1, .int x1), (2, .int x2)]) hx hb dX8_growsTo_81 hl (by decide) rfl (fun ls hl => ?_)
      refine lv_iconst (v := 0) hx hb dX8_growsTo_83 (by decide) ?_
      refine lv_istore (lv' := [(9, .int 0), (7, .long ((uF1 v12.toNatClampNeg) * (uF1 (6 + (uF1 (1 : Int32).toNatClampNeg).toInt32).toNatClampNeg))), (5, .long v10), (3, .long (uF1 v7.toNatClampNeg)), (0, .ref (xAd κ 245)), (1, .int x1), (2, .int x2)]) hx hb dX8_growsTo_84 hl (by decide) rfl (fun ls hl => ?_)
      exact l_X8_growsTo_86 hc K fu _ _ _ _ _ _ _ _ _ hf hw (lv_sub hl [4, 6, 3, 2, 1, 0] rfl)
    · have hf := xif_t c6 hf
      refine lv_aload_n hx hb dX8_growsTo_29 rfl (lv_at hl 0 rfl) ?_
      refine lv_iconst (v := 2) hx hb dX8_growsTo_30 (by decide) ?_
      obtain ⟨v22, uF0_23, h24, hf⟩ := xb2_of hf
      refine x_calliV (As := [.int 2]) (rest := []) (σ' := (wA, wT, wG, wM, (uF0_23, uF1, uF2, uF3, uF4, uF5, uF6, uF7, uF8, uF9, uF10, uF11, uF12, uF13, uF14, uF15, uF16, uF17, uF18), wO)) hc hw hl.1 (m_X8_fails h24) kX8_79 co_245 rfl rfl ⟨rfl, rfl⟩ ⟨Nat.le_of_ble_eq_true rfl, Nat.le_of_ble_eq_true rfl⟩ ⟨Nat.zero_le _, Nat.zero_le _⟩ (Nat.le_of_ble_eq_true rfl) dX8_growsTo_31 (fun H locs hw => ?_)
      cases hf
      exact K _ _ _ _ dX8_growsTo_34 rfl hw
  · have hf := xif_t c3 hf
    refine lv_aload_n hx hb dX8_growsTo_13 rfl (lv_at hl 0 rfl) ?_
    refine lv_iconst (v := 1) hx hb dX8_growsTo_14 (by decide) ?_
    obtain ⟨v25, uF0_26, h27, hf⟩ := xb2_of hf
    refine x_calliV (As := [.int 1]) (rest := []) (σ' := (wA, wT, wG, wM, (uF0_26, uF1, uF2, uF3, uF4, uF5, uF6, uF7, uF8, uF9, uF10, uF11, uF12, uF13, uF14, uF15, uF16, uF17, uF18), wO)) hc hw hl.1 (m_X8_fails h27) kX8_79 co_245 rfl rfl ⟨rfl, rfl⟩ ⟨Nat.le_of_ble_eq_true rfl, Nat.le_of_ble_eq_true rfl⟩ ⟨Nat.zero_le _, Nat.zero_le _⟩ (Nat.le_of_ble_eq_true rfl) dX8_growsTo_15 (fun H locs hw => ?_)
    cases hf
    exact K _ _ _ _ dX8_growsTo_18 rfl hw
def f_X8_pass (fu : Nat) (x1 : Int32) (uF0 : Int32) (uF1 : xF64) (uF3 : xF64) (uF4 : xF64) (uF5 : Int32) (uF11 : Int64) : Option (Int64 × Int32 × xF64 × xF64 × xF64 × Int32 × Int64) :=
  xb1 (f_X8_remembers fu uF1 uF3) fun uF3_1 => (xb3 (f_X8_passing fu x1 uF1 uF11) fun v3 uF1_4 uF11_5 => (xb4 (f_X8_ends fu v3 uF0 uF3_1 uF4 uF5 uF11_5) fun v7 uF0_8 uF4_9 uF5_10 => (some (v7, uF0_8, uF1_4, uF3_1, uF4_9, uF5_10, uF11_5))))
set_option maxHeartbeats 4000000 in
set_option maxRecDepth 100000 in
theorem m_X8_pass {l : Launch} {κ : xKt} {wA : Nat → sAcc} {wT : sTxt} {wG : sRng} {wM : sMai} {wO : sOut} {fu : Nat} {x1 : Int32} {uF0 : Int32} {uF1 : xF64} {uF2 : xF64} {uF3 : xF64} {uF4 : xF64} {uF5 : Int32} {uF6 : Int32} {uF7 : Int32} {uF8 : xF32} {uF9 : Int32} {uF10 : Int32} {uF11 : Int64} {uF12 : xF32} {uF13 : Int32} {uF14 : Int32} {uF15 : Int32} {uF16 : xF32} {uF17 : xF32} {uF18 : Int32} {rr : Int64} {yF0 : Int32} {yF1 : xF64} {yF3 : xF64} {yF4 : xF64} {yF5 : Int32} {yF11 : Int64} (hf : f_X8_pass fu x1 uF0 uF1 uF3 uF4 uF5 uF11 = some (rr, yF0, yF1, yF3, yF4, yF5, yF11)) : xMl l κ yX8_pass cX8_pass 2 (some .long) (xR 3 0 0) [.ref (xAd κ 245), .int x1] (wA, wT, wG, wM, (uF0, uF1, uF2, uF3, uF4, uF5, uF6, uF7, uF8, uF9, uF10, uF11, uF12, uF13, uF14, uF15, uF16, uF17, uF18), wO) (wA, wT, wG, wM, (yF0, yF1, uF2, yF3, yF4, yF5, uF6, uF7, uF8, uF9, uF10, yF11, uF12, uF13, uF14, uF15, uF16, uF17, uF18), wO) rr := by
  unfold f_X8_pass at hf
  refine xMl_of pn_X8 (Nat.le_of_ble_eq_true rfl) ⟨rfl, rfl⟩ ?_
  intro A p e s m args below meth c ls Q hc hw hl K
  have hc : xC κ A p s m args meth c cX8_pass RX8 2 (some .long) := hc
  have hx := hc.1.1
  have hb := hc.1.2.1
  have hl : lv_has ls 2 [(0, .ref (xAd κ 245)), (1, .int x1)] := hl
  refine lv_aload_n hx hb dX8_pass_0 rfl (lv_at hl 0 rfl) ?_
  obtain ⟨uF3_1, h2, hf⟩ := xb1_of hf
  refine x_callvV (As := []) (rest := []) (σ' := (wA, wT, wG, wM, (uF0, uF1, uF2, uF3_1, uF4, uF5, uF6, uF7, uF8, uF9, uF10, uF11, uF12, uF13, uF14, uF15, uF16, uF17, uF18), wO)) hc hw hl.1 (m_X8_remembers h2) kX8_76 co_245 rfl rfl ⟨rfl, rfl⟩ ⟨Nat.le_of_ble_eq_true rfl, Nat.le_of_ble_eq_true rfl⟩ ⟨Nat.zero_le _, Nat.zero_le _⟩ (Nat.le_of_ble_eq_true rfl) dX8_pass_1 (fun H locs hw => ?_)
  refine lv_aload_n hx hb dX8_pass_4 rfl (lv_at hl 0 rfl) ?_
  refine lv_aload_n hx hb dX8_pass_5 rfl (lv_at hl 0 rfl) ?_
  refine lv_iload_n hx hb dX8_pass_6 rfl (lv_at hl 1 rfl) ?_
  obtain ⟨v3, uF1_4, uF11_5, h6, hf⟩ := xb3_of hf
  refine x_calliV (As := [.int x1]) (rest := [.ref (xAd κ 245)]) (σ' := (wA, wT, wG, wM, (uF0, uF1_4, uF2, uF3_1, uF4, uF5, uF6, uF7, uF8, uF9, uF10, uF11_5, uF12, uF13, uF14, uF15, uF16, uF17, uF18), wO)) hc hw hl.1 (m_X8_passing h6) kX8_247 co_245 rfl rfl ⟨rfl, rfl⟩ ⟨Nat.le_of_ble_eq_true rfl, Nat.le_of_ble_eq_true rfl⟩ ⟨Nat.zero_le _, Nat.zero_le _⟩ (Nat.le_of_ble_eq_true rfl) dX8_pass_7 (fun H locs hw => ?_)
  obtain ⟨v7, uF0_8, uF4_9, uF5_10, h11, hf⟩ := xb4_of hf
  refine x_calllV (As := [.int v3]) (rest := []) (σ' := (wA, wT, wG, wM, (uF0_8, uF1_4, uF2, uF3_1, uF4_9, uF5_10, uF6, uF7, uF8, uF9, uF10, uF11_5, uF12, uF13, uF14, uF15, uF16, uF17, uF18), wO)) hc hw hl.1 (m_X8_ends h11) kX8_214 co_245 rfl rfl ⟨rfl, rfl⟩ ⟨Nat.le_of_ble_eq_true rfl, Nat.le_of_ble_eq_true rfl⟩ ⟨Nat.zero_le _, Nat.zero_le _⟩ (Nat.le_of_ble_eq_true rfl) dX8_pass_10 (fun H locs hw => ?_)
  cases hf
  exact K _ _ _ _ dX8_pass_13 hw
def f_X8_goOn (fu : Nat) (uF0 : Int32) (uF1 : xF64) (uF3 : xF64) (uF4 : xF64) (uF5 : Int32) (uF11 : Int64) : Option (Int32 × Int32 × xF64 × xF64 × xF64 × Int32 × Int64) :=
  xb1 (f_X8_remembers fu uF1 uF3) fun uF3_1 => (xb3 (f_X8_goingOn uF1 uF11) fun v3 uF1_4 uF11_5 => (xb4 (f_X8_ends fu v3 uF0 uF3_1 uF4 uF5 uF11_5) fun v7 uF0_8 uF4_9 uF5_10 => (some (v7.toInt32, uF0_8, uF1_4, uF3_1, uF4_9, uF5_10, uF11_5))))
set_option maxHeartbeats 4000000 in
set_option maxRecDepth 100000 in
theorem m_X8_goOn {l : Launch} {κ : xKt} {wA : Nat → sAcc} {wT : sTxt} {wG : sRng} {wM : sMai} {wO : sOut} {fu : Nat} {uF0 : Int32} {uF1 : xF64} {uF2 : xF64} {uF3 : xF64} {uF4 : xF64} {uF5 : Int32} {uF6 : Int32} {uF7 : Int32} {uF8 : xF32} {uF9 : Int32} {uF10 : Int32} {uF11 : Int64} {uF12 : xF32} {uF13 : Int32} {uF14 : Int32} {uF15 : Int32} {uF16 : xF32} {uF17 : xF32} {uF18 : Int32} {rr : Int32} {yF0 : Int32} {yF1 : xF64} {yF3 : xF64} {yF4 : xF64} {yF5 : Int32} {yF11 : Int64} (hf : f_X8_goOn fu uF0 uF1 uF3 uF4 uF5 uF11 = some (rr, yF0, yF1, yF3, yF4, yF5, yF11)) : xMi l κ yX8_goOn cX8_goOn 1 (some .int) (xR 2 0 0) [.ref (xAd κ 245)] (wA, wT, wG, wM, (uF0, uF1, uF2, uF3, uF4, uF5, uF6, uF7, uF8, uF9, uF10, uF11, uF12, uF13, uF14, uF15, uF16, uF17, uF18), wO) (wA, wT, wG, wM, (yF0, yF1, uF2, yF3, yF4, yF5, uF6, uF7, uF8, uF9, uF10, yF11, uF12, uF13, uF14, uF15, uF16, uF17, uF18), wO) rr := by
  unfold f_X8_goOn at hf
  refine xMi_of pn_X8 (Nat.le_of_ble_eq_true rfl) ⟨rfl, rfl⟩ ?_
  intro A p e s m args below meth c ls Q hc hw hl K
  have hc : xC κ A p s m args meth c cX8_goOn RX8 1 (some .int) := hc
  have hx := hc.1.1
  have hb := hc.1.2.1
  have hl : lv_has ls 1 [(0, .ref (xAd κ 245))] := hl
  refine lv_aload_n hx hb dX8_goOn_0 rfl (lv_at hl 0 rfl) ?_
  obtain ⟨uF3_1, h2, hf⟩ := xb1_of hf
  refine x_callvV (As := []) (rest := []) (σ' := (wA, wT, wG, wM, (uF0, uF1, uF2, uF3_1, uF4, uF5, uF6, uF7, uF8, uF9, uF10, uF11, uF12, uF13, uF14, uF15, uF16, uF17, uF18), wO)) hc hw hl.1 (m_X8_remembers h2) kX8_76 co_245 rfl rfl ⟨rfl, rfl⟩ ⟨Nat.le_of_ble_eq_true rfl, Nat.le_of_ble_eq_true rfl⟩ ⟨Nat.zero_le _, Nat.zero_le _⟩ (Nat.le_of_ble_eq_true rfl) dX8_goOn_1 (fun H locs hw => ?_)
  refine lv_aload_n hx hb dX8_goOn_4 rfl (lv_at hl 0 rfl) ?_
  refine lv_aload_n hx hb dX8_goOn_5 rfl (lv_at hl 0 rfl) ?_
  obtain ⟨v3, uF1_4, uF11_5, h6, hf⟩ := xb3_of hf
  refine x_calliV (As := []) (rest := [.ref (xAd κ 245)]) (σ' := (wA, wT, wG, wM, (uF0, uF1_4, uF2, uF3_1, uF4, uF5, uF6, uF7, uF8, uF9, uF10, uF11_5, uF12, uF13, uF14, uF15, uF16, uF17, uF18), wO)) hc hw hl.1 (m_X8_goingOn h6) kX8_250 co_245 rfl rfl ⟨rfl, rfl⟩ ⟨Nat.le_of_ble_eq_true rfl, Nat.le_of_ble_eq_true rfl⟩ ⟨Nat.zero_le _, Nat.zero_le _⟩ (Nat.le_of_ble_eq_true rfl) dX8_goOn_6 (fun H locs hw => ?_)
  obtain ⟨v7, uF0_8, uF4_9, uF5_10, h11, hf⟩ := xb4_of hf
  refine x_calllV (As := [.int v3]) (rest := []) (σ' := (wA, wT, wG, wM, (uF0_8, uF1_4, uF2, uF3_1, uF4_9, uF5_10, uF6, uF7, uF8, uF9, uF10, uF11_5, uF12, uF13, uF14, uF15, uF16, uF17, uF18), wO)) hc hw hl.1 (m_X8_ends h11) kX8_214 co_245 rfl rfl ⟨rfl, rfl⟩ ⟨Nat.le_of_ble_eq_true rfl, Nat.le_of_ble_eq_true rfl⟩ ⟨Nat.zero_le _, Nat.zero_le _⟩ (Nat.le_of_ble_eq_true rfl) dX8_goOn_9 (fun H locs hw => ?_)
  refine lv_l2i (v := v7.toInt32) hx hb dX8_goOn_12 rfl ?_
  cases hf
  exact K _ _ _ _ dX8_goOn_13 rfl hw
def f_X8_together_5 (fu : Nat) (uF1 : xF64) : Nat → (Int32) → (Int64) → (Int32) → Option Int64
  | 0, _, _, _ => none
  | n + 1, x1, x2, x4 => xb1 (f_X8_parties uF1) fun v1 => (if v1 ≤ x4 then (some x2) else (if x1 = 7 then (xb1 (f_X8_held x4 uF1) fun v9 => (f_X8_together_5 fu uF1 n x1 (x2 + v9) (x4 + 1))) else (if x1 = 11 then (xb1 (f_X8_shortBy x4 uF1) fun v7 => (f_X8_together_5 fu uF1 n x1 (x2 + v7) (x4 + 1))) else (xk (xin ((32 + (6 * (x1 - 4))) + x4) 304) (f_X8_together_5 fu uF1 n x1 (x2 + (uF1 ((32 + (6 * (x1 - 4))) + x4).toNatClampNeg)) (x4 + 1))))))
def f_X8_together (fu : Nat) (x1 : Int32) (uF1 : xF64) : Option Int64 :=
  f_X8_together_5 fu uF1 fu x1 0 0
set_option maxHeartbeats 4000000 in
set_option maxRecDepth 100000 in
theorem l_X8_together_5 {l : Launch} {κ : xKt} {wA : Nat → sAcc} {wT : sTxt} {wG : sRng} {wM : sMai} {wO : sOut} {fu : Nat} {uF0 : Int32} {uF1 : xF64} {uF2 : xF64} {uF3 : xF64} {uF4 : xF64} {uF5 : Int32} {uF6 : Int32} {uF7 : Int32} {uF8 : xF32} {uF9 : Int32} {uF10 : Int32} {uF11 : Int64} {uF12 : xF32} {uF13 : Int32} {uF14 : Int32} {uF15 : Int32} {uF16 : xF32} {uF17 : xF32} {uF18 : Int32} {A : Nat → Prop} {p : Program} {e : Env} {s : State} {m : MethodId} {args : Array Value} {below : List Frame} {meth : Method} {c : Code} {Q : State → Prop} {rr : Int64}
    (hc : xC κ A p s m args meth c cX8_together RX8 5 (some .long))
    (K : ∀ (pc : Nat) (ls : Array Slot) (H : Heap) (locs : List Loc), decode cX8_together pc = .ok (.lreturn, 1) → xW κ A s (wA, wT, wG, wM, (uF0, uF1, uF2, uF3, uF4, uF5, uF6, uF7, uF8, uF9, uF10, uF11, uF12, uF13, uF14, uF15, uF16, uF17, uF18), wO) H locs → W p l e (xR 1 0 0) s m args below meth c H locs 0 0 Q (F0 m pc ls [.long rr])) :
    ∀ (n : Nat) (x1 : Int32) (x2 : Int64) (x4 : Int32) (H : Heap) (locs : List Loc) (ls : Array Slot), f_X8_together_5 fu uF1 n x1 x2 x4 = some rr → xW κ A s (wA, wT, wG, wM, (uF0, uF1, uF2, uF3, uF4, uF5, uF6, uF7, uF8, uF9, uF10, uF11, uF12, uF13, uF14, uF15, uF16, uF17, uF18), wO) H locs → lv_has ls 5 [(0, .ref (xAd κ 245)), (1, .int x1), (2, .long x2), (4, .int x4)] → W p l e (xR 1 0 0) s m args below meth c H locs 0 0 Q (F0 m 5 ls []) := by
  have hx := hc.1.1
  have hb := hc.1.2.1
  intro n
  induction n with
  | zero =>
    intro x1 x2 x4 H locs ls hf
    rw [f_X8_together_5] at hf
    cases hf
  | succ n hi =>
    intro x1 x2 x4 H locs ls hf hw hl
    rw [f_X8_together_5] at hf
    refine lv_iload hx hb dX8_together_5 (lv_at hl 3 rfl) ?_
    refine lv_aload_n hx hb dX8_together_7 rfl (lv_at hl 0 rfl) ?_
    obtain ⟨v1, h2, hf⟩ := xb1_of hf
    refine x_calliV (As := []) (rest := [.int x4]) (σ' := (wA, wT, wG, wM, (uF0, uF1, uF2, uF3, uF4, uF5, uF6, uF7, uF8, uF9, uF10, uF11, uF12, uF13, uF14, uF15, uF16, uF17, uF18), wO)) hc hw hl.1 (m_X8_parties h2) kX8_59 co_245 rfl rfl ⟨rfl, rfl⟩ ⟨Nat.le_of_ble_eq_true rfl, Nat.le_of_ble_eq_true rfl⟩ ⟨Nat.zero_le _, Nat.zero_le _⟩ (Nat.le_of_ble_eq_true rfl) dX8_together_8 (fun H locs hw => ?_)
    refine lv_icmp_ge (tgt := 70) hx hb dX8_together_11 (by decide) (fun c3 => ?_) (fun c3 => ?_)
    · have hf := xif_t c3 hf
      refine lv_lload_n hx hb dX8_together_70 rfl (lv_at hl 2 rfl) ?_
      cases hf
      exact K _ _ _ _ dX8_together_71 hw
    · have hf := xif_f c3 hf
      refine lv_lload_n hx hb dX8_together_14 rfl (lv_at hl 2 rfl) ?_
      refine lv_iload_n hx hb dX8_together_15 rfl (lv_at hl 1 rfl) ?_
      refine lv_bipush (v := 7) hx hb dX8_together_16 (by decide) ?_
      refine lv_icmp_ne (tgt := 30) hx hb dX8_together_18 (by decide) (fun c4 => ?_) (fun c4 => ?_)
      · have hf := xif_f c4 hf
        refine lv_iload_n hx hb dX8_together_30 rfl (lv_at hl 1 rfl) ?_
        refine lv_bipush (v := 11) hx hb dX8_together_31 (by decide) ?_
        refine lv_icmp_ne (tgt := 45) hx hb dX8_together_33 (by decide) (fun c5 => ?_) (fun c5 => ?_)
        · have hf := xif_f c5 hf
          refine lv_aload_n hx hb dX8_together_45 rfl (lv_at hl 0 rfl) ?_
          refine x_get (v := .ref (xAd κ 246)) hc hw co_245 fX8_7 rfl dX8_together_46 ?_
          refine lv_bipush (v := 32) hx hb dX8_together_49 (by decide) ?_
          refine lv_bipush (v := 6) hx hb dX8_together_51 (by decide) ?_
          refine lv_iload_n hx hb dX8_together_53 rfl (lv_at hl 1 rfl) ?_
          refine lv_iconst (v := 4) hx hb dX8_together_54 (by decide) ?_
          refine lv_isub hx hb dX8_together_55 ?_
          refine lv_imul hx hb dX8_together_56 ?_
          refine lv_iadd hx hb dX8_together_57 ?_
          refine lv_iload hx hb dX8_together_58 (lv_at hl 3 rfl) ?_
          refine lv_iadd hx hb dX8_together_60 ?_
          obtain ⟨k6, hf⟩ := xk_of hf
          refine x_lald (n := 304) (f := uF1) hc hw co_246 k6 dX8_together_61 ?_
          refine lv_ladd hx hb dX8_together_62 ?_
          refine lv_lstore_n (lv' := [(2, .long (x2 + (uF1 ((32 + (6 * (x1 - 4))) + x4).toNatClampNeg))), (0, .ref (xAd κ 245)), (1, .int x1), (4, .int x4)]) hx hb dX8_together_63 rfl hl (by decide) rfl (fun ls hl => ?_)
          refine lv_iinc (v := (x4 + 1)) (lv' := [(4, .int (x4 + 1)), (2, .long (x2 + (uF1 ((32 + (6 * (x1 - 4))) + x4).toNatClampNeg))), (0, .ref (xAd κ 245)), (1, .int x1)]) hx hb dX8_together_64 hl (k := 3) rfl rfl (by decide) rfl (fun ls hl => ?_)
          refine lv_goto (tgt := 5) hx hb dX8_together_67 (by decide) ?_
          exact hi _ _ _ _ _ _ hf hw (lv_sub hl [2, 3, 1, 0] rfl)
        · have hf := xif_t c5 hf
          refine lv_aload_n hx hb dX8_together_36 rfl (lv_at hl 0 rfl) ?_
          refine lv_iload hx hb dX8_together_37 (lv_at hl 3 rfl) ?_
          obtain ⟨v7, h8, hf⟩ := xb1_of hf
          refine x_calllV (As := [.int x4]) (rest := [.long x2]) (σ' := (wA, wT, wG, wM, (uF0, uF1, uF2, uF3, uF4, uF5, uF6, uF7, uF8, uF9, uF10, uF11, uF12, uF13, uF14, uF15, uF16, uF17, uF18), wO)) hc hw hl.1 (m_X8_shortBy h8) kX8_162 co_245 rfl rfl ⟨rfl, rfl⟩ ⟨Nat.le_of_ble_eq_true rfl, Nat.le_of_ble_eq_true rfl⟩ ⟨Nat.zero_le _, Nat.zero_le _⟩ (Nat.le_of_ble_eq_true rfl) dX8_together_39 (fun H locs hw => ?_)
          refine lv_goto (tgt := 62) hx hb dX8_together_42 (by decide) ?_
          refine lv_ladd hx hb dX8_together_62 ?_
          refine lv_lstore_n (lv' := [(2, .long (x2 + v7)), (0, .ref (xAd κ 245)), (1, .int x1), (4, .int x4)]) hx hb dX8_together_63 rfl hl (by decide) rfl (fun ls hl => ?_)
          refine lv_iinc (v := (x4 + 1)) (lv' := [(4, .int (x4 + 1)), (2, .long (x2 + v7)), (0, .ref (xAd κ 245)), (1, .int x1)]) hx hb dX8_together_64 hl (k := 3) rfl rfl (by decide) rfl (fun ls hl => ?_)
          refine lv_goto (tgt := 5) hx hb dX8_together_67 (by decide) ?_
          exact hi _ _ _ _ _ _ hf hw (lv_sub hl [2, 3, 1, 0] rfl)
      · have hf := xif_t c4 hf
        refine lv_aload_n hx hb dX8_together_21 rfl (lv_at hl 0 rfl) ?_
        refine lv_iload hx hb dX8_together_22 (lv_at hl 3 rfl) ?_
        obtain ⟨v9, h10, hf⟩ := xb1_of hf
        refine x_calllV (As := [.int x4]) (rest := [.long x2]) (σ' := (wA, wT, wG, wM, (uF0, uF1, uF2, uF3, uF4, uF5, uF6, uF7, uF8, uF9, uF10, uF11, uF12, uF13, uF14, uF15, uF16, uF17, uF18), wO)) hc hw hl.1 (m_X8_held h10) kX8_156 co_245 rfl rfl ⟨rfl, rfl⟩ ⟨Nat.le_of_ble_eq_true rfl, Nat.le_of_ble_eq_true rfl⟩ ⟨Nat.zero_le _, Nat.zero_le _⟩ (Nat.le_of_ble_eq_true rfl) dX8_together_24 (fun H locs hw => ?_)
        refine lv_goto (tgt := 62) hx hb dX8_together_27 (by decide) ?_
        refine lv_ladd hx hb dX8_together_62 ?_
        refine lv_lstore_n (lv' := [(2, .long (x2 + v9)), (0, .ref (xAd κ 245)), (1, .int x1), (4, .int x4)]) hx hb dX8_together_63 rfl hl (by decide) rfl (fun ls hl => ?_)
        refine lv_iinc (v := (x4 + 1)) (lv' := [(4, .int (x4 + 1)), (2, .long (x2 + v9)), (0, .ref (xAd κ 245)), (1, .int x1)]) hx hb dX8_together_64 hl (k := 3) rfl rfl (by decide) rfl (fun ls hl => ?_)
        refine lv_goto (tgt := 5) hx hb dX8_together_67 (by decide) ?_
        exact hi _ _ _ _ _ _ hf hw (lv_sub hl [2, 3, 1, 0] rfl)
set_option maxHeartbeats 4000000 in
set_option maxRecDepth 100000 in
theorem m_X8_together {l : Launch} {κ : xKt} {wA : Nat → sAcc} {wT : sTxt} {wG : sRng} {wM : sMai} {wO : sOut} {fu : Nat} {x1 : Int32} {uF0 : Int32} {uF1 : xF64} {uF2 : xF64} {uF3 : xF64} {uF4 : xF64} {uF5 : Int32} {uF6 : Int32} {uF7 : Int32} {uF8 : xF32} {uF9 : Int32} {uF10 : Int32} {uF11 : Int64} {uF12 : xF32} {uF13 : Int32} {uF14 : Int32} {uF15 : Int32} {uF16 : xF32} {uF17 : xF32} {uF18 : Int32} {rr : Int64} (hf : f_X8_together fu x1 uF1 = some rr) : xMl l κ yX8_together cX8_together 5 (some .long) (xR 1 0 0) [.ref (xAd κ 245), .int x1] (wA, wT, wG, wM, (uF0, uF1, uF2, uF3, uF4, uF5, uF6, uF7, uF8, uF9, uF10, uF11, uF12, uF13, uF14, uF15, uF16, uF17, uF18), wO) (wA, wT, wG, wM, (uF0, uF1, uF2, uF3, uF4, uF5, uF6, uF7, uF8, uF9, uF10, uF11, uF12, uF13, uF14, uF15, uF16, uF17, uF18), wO) rr := by
  unfold f_X8_together at hf
  refine xMl_of pn_X8 (Nat.le_of_ble_eq_true rfl) ⟨rfl, rfl⟩ ?_
  intro A p e s m args below meth c ls Q hc hw hl K
  have hc : xC κ A p s m args meth c cX8_together RX8 5 (some .long) := hc
  have hx := hc.1.1
  have hb := hc.1.2.1
  have hl : lv_has ls 5 [(0, .ref (xAd κ 245)), (1, .int x1)] := hl
  refine lv_lconst (v := 0) hx hb dX8_together_0 (by decide) ?_
  refine lv_lstore_n (lv' := [(2, .long 0), (0, .ref (xAd κ 245)), (1, .int x1)]) hx hb dX8_together_1 rfl hl (by decide) rfl (fun ls hl => ?_)
  refine lv_iconst (v := 0) hx hb dX8_together_2 (by decide) ?_
  refine lv_istore (lv' := [(4, .int 0), (2, .long 0), (0, .ref (xAd κ 245)), (1, .int x1)]) hx hb dX8_together_3 hl (by decide) rfl (fun ls hl => ?_)
  exact l_X8_together_5 hc K fu _ _ _ _ _ _ hf hw (lv_sub hl [2, 3, 1, 0] rfl)
def f_X8_rests_4 (fu : Nat) (uF1 : xF64) : Nat → (Int64) → (Int32) → Option Int64
  | 0, _, _ => none
  | n + 1, x1, x3 => xb1 (f_X8_claims uF1) fun v1 => (if v1 ≤ x3 then (some x1) else (xb1 (f_X8_restOf x3 uF1) fun v4 => (f_X8_rests_4 fu uF1 n (x1 + v4) (x3 + 1))))
def f_X8_rests (fu : Nat) (uF1 : xF64) : Option Int64 :=
  f_X8_rests_4 fu uF1 fu 0 0
set_option maxHeartbeats 4000000 in
set_option maxRecDepth 100000 in
theorem l_X8_rests_4 {l : Launch} {κ : xKt} {wA : Nat → sAcc} {wT : sTxt} {wG : sRng} {wM : sMai} {wO : sOut} {fu : Nat} {uF0 : Int32} {uF1 : xF64} {uF2 : xF64} {uF3 : xF64} {uF4 : xF64} {uF5 : Int32} {uF6 : Int32} {uF7 : Int32} {uF8 : xF32} {uF9 : Int32} {uF10 : Int32} {uF11 : Int64} {uF12 : xF32} {uF13 : Int32} {uF14 : Int32} {uF15 : Int32} {uF16 : xF32} {uF17 : xF32} {uF18 : Int32} {A : Nat → Prop} {p : Program} {e : Env} {s : State} {m : MethodId} {args : Array Value} {below : List Frame} {meth : Method} {c : Code} {Q : State → Prop} {rr : Int64}
    (hc : xC κ A p s m args meth c cX8_rests RX8 4 (some .long))
    (K : ∀ (pc : Nat) (ls : Array Slot) (H : Heap) (locs : List Loc), decode cX8_rests pc = .ok (.lreturn, 1) → xW κ A s (wA, wT, wG, wM, (uF0, uF1, uF2, uF3, uF4, uF5, uF6, uF7, uF8, uF9, uF10, uF11, uF12, uF13, uF14, uF15, uF16, uF17, uF18), wO) H locs → W p l e (xR 2 0 0) s m args below meth c H locs 0 0 Q (F0 m pc ls [.long rr])) :
    ∀ (n : Nat) (x1 : Int64) (x3 : Int32) (H : Heap) (locs : List Loc) (ls : Array Slot), f_X8_rests_4 fu uF1 n x1 x3 = some rr → xW κ A s (wA, wT, wG, wM, (uF0, uF1, uF2, uF3, uF4, uF5, uF6, uF7, uF8, uF9, uF10, uF11, uF12, uF13, uF14, uF15, uF16, uF17, uF18), wO) H locs → lv_has ls 4 [(0, .ref (xAd κ 245)), (1, .long x1), (3, .int x3)] → W p l e (xR 2 0 0) s m args below meth c H locs 0 0 Q (F0 m 4 ls []) := by
  have hx := hc.1.1
  have hb := hc.1.2.1
  intro n
  induction n with
  | zero =>
    intro x1 x3 H locs ls hf
    rw [f_X8_rests_4] at hf
    cases hf
  | succ n hi =>
    intro x1 x3 H locs ls hf hw hl
    rw [f_X8_rests_4] at hf
    refine lv_iload_n hx hb dX8_rests_4 rfl (lv_at hl 2 rfl) ?_
    refine lv_aload_n hx hb dX8_rests_5 rfl (lv_at hl 0 rfl) ?_
    obtain ⟨v1, h2, hf⟩ := xb1_of hf
    refine x_calliV (As := []) (rest := [.int x3]) (σ' := (wA, wT, wG, wM, (uF0, uF1, uF2, uF3, uF4, uF5, uF6, uF7, uF8, uF9, uF10, uF11, uF12, uF13, uF14, uF15, uF16, uF17, uF18), wO)) hc hw hl.1 (m_X8_claims h2) kX8_67 co_245 rfl rfl ⟨rfl, rfl⟩ ⟨Nat.le_of_ble_eq_true rfl, Nat.le_of_ble_eq_true rfl⟩ ⟨Nat.zero_le _, Nat.zero_le _⟩ (Nat.le_of_ble_eq_true rfl) dX8_rests_6 (fun H locs hw => ?_)
    refine lv_icmp_ge (tgt := 26) hx hb dX8_rests_9 (by decide) (fun c3 => ?_) (fun c3 => ?_)
    · have hf := xif_t c3 hf
      refine lv_lload_n hx hb dX8_rests_26 rfl (lv_at hl 1 rfl) ?_
      cases hf
      exact K _ _ _ _ dX8_rests_27 hw
    · have hf := xif_f c3 hf
      refine lv_lload_n hx hb dX8_rests_12 rfl (lv_at hl 1 rfl) ?_
      refine lv_aload_n hx hb dX8_rests_13 rfl (lv_at hl 0 rfl) ?_
      refine lv_iload_n hx hb dX8_rests_14 rfl (lv_at hl 2 rfl) ?_
      obtain ⟨v4, h5, hf⟩ := xb1_of hf
      refine x_calllV (As := [.int x3]) (rest := [.long x1]) (σ' := (wA, wT, wG, wM, (uF0, uF1, uF2, uF3, uF4, uF5, uF6, uF7, uF8, uF9, uF10, uF11, uF12, uF13, uF14, uF15, uF16, uF17, uF18), wO)) hc hw hl.1 (m_X8_restOf h5) kX8_185 co_245 rfl rfl ⟨rfl, rfl⟩ ⟨Nat.le_of_ble_eq_true rfl, Nat.le_of_ble_eq_true rfl⟩ ⟨Nat.zero_le _, Nat.zero_le _⟩ (Nat.le_of_ble_eq_true rfl) dX8_rests_15 (fun H locs hw => ?_)
      refine lv_ladd hx hb dX8_rests_18 ?_
      refine lv_lstore_n (lv' := [(1, .long (x1 + v4)), (0, .ref (xAd κ 245)), (3, .int x3)]) hx hb dX8_rests_19 rfl hl (by decide) rfl (fun ls hl => ?_)
      refine lv_iinc (v := (x3 + 1)) (lv' := [(3, .int (x3 + 1)), (1, .long (x1 + v4)), (0, .ref (xAd κ 245))]) hx hb dX8_rests_20 hl (k := 2) rfl rfl (by decide) rfl (fun ls hl => ?_)
      refine lv_goto (tgt := 4) hx hb dX8_rests_23 (by decide) ?_
      exact hi _ _ _ _ _ hf hw (lv_sub hl [2, 1, 0] rfl)
set_option maxHeartbeats 4000000 in
set_option maxRecDepth 100000 in
theorem m_X8_rests {l : Launch} {κ : xKt} {wA : Nat → sAcc} {wT : sTxt} {wG : sRng} {wM : sMai} {wO : sOut} {fu : Nat} {uF0 : Int32} {uF1 : xF64} {uF2 : xF64} {uF3 : xF64} {uF4 : xF64} {uF5 : Int32} {uF6 : Int32} {uF7 : Int32} {uF8 : xF32} {uF9 : Int32} {uF10 : Int32} {uF11 : Int64} {uF12 : xF32} {uF13 : Int32} {uF14 : Int32} {uF15 : Int32} {uF16 : xF32} {uF17 : xF32} {uF18 : Int32} {rr : Int64} (hf : f_X8_rests fu uF1 = some rr) : xMl l κ yX8_rests cX8_rests 4 (some .long) (xR 2 0 0) [.ref (xAd κ 245)] (wA, wT, wG, wM, (uF0, uF1, uF2, uF3, uF4, uF5, uF6, uF7, uF8, uF9, uF10, uF11, uF12, uF13, uF14, uF15, uF16, uF17, uF18), wO) (wA, wT, wG, wM, (uF0, uF1, uF2, uF3, uF4, uF5, uF6, uF7, uF8, uF9, uF10, uF11, uF12, uF13, uF14, uF15, uF16, uF17, uF18), wO) rr := by
  unfold f_X8_rests at hf
  refine xMl_of pn_X8 (Nat.le_of_ble_eq_true rfl) ⟨rfl, rfl⟩ ?_
  intro A p e s m args below meth c ls Q hc hw hl K
  have hc : xC κ A p s m args meth c cX8_rests RX8 4 (some .long) := hc
  have hx := hc.1.1
  have hb := hc.1.2.1
  have hl : lv_has ls 4 [(0, .ref (xAd κ 245))] := hl
  refine lv_lconst (v := 0) hx hb dX8_rests_0 (by decide) ?_
  refine lv_lstore_n (lv' := [(1, .long 0), (0, .ref (xAd κ 245))]) hx hb dX8_rests_1 rfl hl (by decide) rfl (fun ls hl => ?_)
  refine lv_iconst (v := 0) hx hb dX8_rests_2 (by decide) ?_
  refine lv_istore_n (lv' := [(3, .int 0), (1, .long 0), (0, .ref (xAd κ 245))]) hx hb dX8_rests_3 rfl hl (by decide) rfl (fun ls hl => ?_)
  exact l_X8_rests_4 hc K fu _ _ _ _ _ hf hw (lv_sub hl [2, 1, 0] rfl)
def f_X8_allDebts_4 (fu : Nat) (uF1 : xF64) : Nat → (Int64) → (Int32) → Option Int64
  | 0, _, _ => none
  | n + 1, x1, x3 => xb1 (f_X8_debts uF1) fun v1 => (if v1 ≤ x3 then (some x1) else (xb1 (f_X8_owing x3 uF1) fun v4 => (f_X8_allDebts_4 fu uF1 n (x1 + v4) (x3 + 1))))
def f_X8_allDebts (fu : Nat) (uF1 : xF64) : Option Int64 :=
  f_X8_allDebts_4 fu uF1 fu 0 0
set_option maxHeartbeats 4000000 in
set_option maxRecDepth 100000 in
theorem l_X8_allDebts_4 {l : Launch} {κ : xKt} {wA : Nat → sAcc} {wT : sTxt} {wG : sRng} {wM : sMai} {wO : sOut} {fu : Nat} {uF0 : Int32} {uF1 : xF64} {uF2 : xF64} {uF3 : xF64} {uF4 : xF64} {uF5 : Int32} {uF6 : Int32} {uF7 : Int32} {uF8 : xF32} {uF9 : Int32} {uF10 : Int32} {uF11 : Int64} {uF12 : xF32} {uF13 : Int32} {uF14 : Int32} {uF15 : Int32} {uF16 : xF32} {uF17 : xF32} {uF18 : Int32} {A : Nat → Prop} {p : Program} {e : Env} {s : State} {m : MethodId} {args : Array Value} {below : List Frame} {meth : Method} {c : Code} {Q : State → Prop} {rr : Int64}
    (hc : xC κ A p s m args meth c cX8_allDebts RX8 4 (some .long))
    (K : ∀ (pc : Nat) (ls : Array Slot) (H : Heap) (locs : List Loc), decode cX8_allDebts pc = .ok (.lreturn, 1) → xW κ A s (wA, wT, wG, wM, (uF0, uF1, uF2, uF3, uF4, uF5, uF6, uF7, uF8, uF9, uF10, uF11, uF12, uF13, uF14, uF15, uF16, uF17, uF18), wO) H locs → W p l e (xR 2 0 0) s m args below meth c H locs 0 0 Q (F0 m pc ls [.long rr])) :
    ∀ (n : Nat) (x1 : Int64) (x3 : Int32) (H : Heap) (locs : List Loc) (ls : Array Slot), f_X8_allDebts_4 fu uF1 n x1 x3 = some rr → xW κ A s (wA, wT, wG, wM, (uF0, uF1, uF2, uF3, uF4, uF5, uF6, uF7, uF8, uF9, uF10, uF11, uF12, uF13, uF14, uF15, uF16, uF17, uF18), wO) H locs → lv_has ls 4 [(0, .ref (xAd κ 245)), (1, .long x1), (3, .int x3)] → W p l e (xR 2 0 0) s m args below meth c H locs 0 0 Q (F0 m 4 ls []) := by
  have hx := hc.1.1
  have hb := hc.1.2.1
  intro n
  induction n with
  | zero =>
    intro x1 x3 H locs ls hf
    rw [f_X8_allDebts_4] at hf
    cases hf
  | succ n hi =>
    intro x1 x3 H locs ls hf hw hl
    rw [f_X8_allDebts_4] at hf
    refine lv_iload_n hx hb dX8_allDebts_4 rfl (lv_at hl 2 rfl) ?_
    refine lv_aload_n hx hb dX8_allDebts_5 rfl (lv_at hl 0 rfl) ?_
    obtain ⟨v1, h2, hf⟩ := xb1_of hf
    refine x_calliV (As := []) (rest := [.int x3]) (σ' := (wA, wT, wG, wM, (uF0, uF1, uF2, uF3, uF4, uF5, uF6, uF7, uF8, uF9, uF10, uF11, uF12, uF13, uF14, uF15, uF16, uF17, uF18), wO)) hc hw hl.1 (m_X8_debts h2) kX8_70 co_245 rfl rfl ⟨rfl, rfl⟩ ⟨Nat.le_of_ble_eq_true rfl, Nat.le_of_ble_eq_true rfl⟩ ⟨Nat.zero_le _, Nat.zero_le _⟩ (Nat.le_of_ble_eq_true rfl) dX8_allDebts_6 (fun H locs hw => ?_)
    refine lv_icmp_ge (tgt := 26) hx hb dX8_allDebts_9 (by decide) (fun c3 => ?_) (fun c3 => ?_)
    · have hf := xif_t c3 hf
      refine lv_lload_n hx hb dX8_allDebts_26 rfl (lv_at hl 1 rfl) ?_
      cases hf
      exact K _ _ _ _ dX8_allDebts_27 hw
    · have hf := xif_f c3 hf
      refine lv_lload_n hx hb dX8_allDebts_12 rfl (lv_at hl 1 rfl) ?_
      refine lv_aload_n hx hb dX8_allDebts_13 rfl (lv_at hl 0 rfl) ?_
      refine lv_iload_n hx hb dX8_allDebts_14 rfl (lv_at hl 2 rfl) ?_
      obtain ⟨v4, h5, hf⟩ := xb1_of hf
      refine x_calllV (As := [.int x3]) (rest := [.long x1]) (σ' := (wA, wT, wG, wM, (uF0, uF1, uF2, uF3, uF4, uF5, uF6, uF7, uF8, uF9, uF10, uF11, uF12, uF13, uF14, uF15, uF16, uF17, uF18), wO)) hc hw hl.1 (m_X8_owing h5) kX8_146 co_245 rfl rfl ⟨rfl, rfl⟩ ⟨Nat.le_of_ble_eq_true rfl, Nat.le_of_ble_eq_true rfl⟩ ⟨Nat.zero_le _, Nat.zero_le _⟩ (Nat.le_of_ble_eq_true rfl) dX8_allDebts_15 (fun H locs hw => ?_)
      refine lv_ladd hx hb dX8_allDebts_18 ?_
      refine lv_lstore_n (lv' := [(1, .long (x1 + v4)), (0, .ref (xAd κ 245)), (3, .int x3)]) hx hb dX8_allDebts_19 rfl hl (by decide) rfl (fun ls hl => ?_)
      refine lv_iinc (v := (x3 + 1)) (lv' := [(3, .int (x3 + 1)), (1, .long (x1 + v4)), (0, .ref (xAd κ 245))]) hx hb dX8_allDebts_20 hl (k := 2) rfl rfl (by decide) rfl (fun ls hl => ?_)
      refine lv_goto (tgt := 4) hx hb dX8_allDebts_23 (by decide) ?_
      exact hi _ _ _ _ _ hf hw (lv_sub hl [2, 1, 0] rfl)
set_option maxHeartbeats 4000000 in
set_option maxRecDepth 100000 in
theorem m_X8_allDebts {l : Launch} {κ : xKt} {wA : Nat → sAcc} {wT : sTxt} {wG : sRng} {wM : sMai} {wO : sOut} {fu : Nat} {uF0 : Int32} {uF1 : xF64} {uF2 : xF64} {uF3 : xF64} {uF4 : xF64} {uF5 : Int32} {uF6 : Int32} {uF7 : Int32} {uF8 : xF32} {uF9 : Int32} {uF10 : Int32} {uF11 : Int64} {uF12 : xF32} {uF13 : Int32} {uF14 : Int32} {uF15 : Int32} {uF16 : xF32} {uF17 : xF32} {uF18 : Int32} {rr : Int64} (hf : f_X8_allDebts fu uF1 = some rr) : xMl l κ yX8_allDebts cX8_allDebts 4 (some .long) (xR 2 0 0) [.ref (xAd κ 245)] (wA, wT, wG, wM, (uF0, uF1, uF2, uF3, uF4, uF5, uF6, uF7, uF8, uF9, uF10, uF11, uF12, uF13, uF14, uF15, uF16, uF17, uF18), wO) (wA, wT, wG, wM, (uF0, uF1, uF2, uF3, uF4, uF5, uF6, uF7, uF8, uF9, uF10, uF11, uF12, uF13, uF14, uF15, uF16, uF17, uF18), wO) rr := by
  unfold f_X8_allDebts at hf
  refine xMl_of pn_X8 (Nat.le_of_ble_eq_true rfl) ⟨rfl, rfl⟩ ?_
  intro A p e s m args below meth c ls Q hc hw hl K
  have hc : xC κ A p s m args meth c cX8_allDebts RX8 4 (some .long) := hc
  have hx := hc.1.1
  have hb := hc.1.2.1
  have hl : lv_has ls 4 [(0, .ref (xAd κ 245))] := hl
  refine lv_lconst (v := 0) hx hb dX8_allDebts_0 (by decide) ?_
  refine lv_lstore_n (lv' := [(1, .long 0), (0, .ref (xAd κ 245))]) hx hb dX8_allDebts_1 rfl hl (by decide) rfl (fun ls hl => ?_)
  refine lv_iconst (v := 0) hx hb dX8_allDebts_2 (by decide) ?_
  refine lv_istore_n (lv' := [(3, .int 0), (1, .long 0), (0, .ref (xAd κ 245))]) hx hb dX8_allDebts_3 rfl hl (by decide) rfl (fun ls hl => ?_)
  exact l_X8_allDebts_4 hc K fu _ _ _ _ _ hf hw (lv_sub hl [2, 1, 0] rfl)
def f_X8_account (fu : Nat) (x1 : Int32) (uF0 : Int32) (uF1 : xF64) : Option (Int64 × Int32) :=
  if x1 = 0 then (xk (xin 2 304) (some ((uF1 (2 : Int32).toNatClampNeg), 0))) else (if x1 = 1 then (xk (xin 3 304) (some ((uF1 (3 : Int32).toNatClampNeg), 0))) else (if x1 = 2 then (xk (xin 4 304) (some ((uF1 (4 : Int32).toNatClampNeg), 0))) else (if x1 = 3 then (xb1 (f_X8_allDebts fu uF1) fun v8 => (some (v8, 0))) else (if x1 = 8 then (xk (xin 0 304) (some ((uF1 (0 : Int32).toNatClampNeg), 0))) else (if x1 = 9 then (xk (xin 1 304) (some ((uF1 (1 : Int32).toNatClampNeg), 0))) else (if x1 = 10 then (xb1 (f_X8_rests fu uF1) fun v15 => (some (v15, 0))) else (xb1 (f_X8_in x1 4 7) fun v17 => (if v17 = 0 then (if x1 = 11 then (xb1 (f_X8_together fu x1 uF1) fun v26 => (some (v26, 0))) else (xb2 (f_X8_failsLong 1 0) fun v23 uF0_24 => (some (v23, uF0_24)))) else (xb1 (f_X8_together fu x1 uF1) fun v20 => (some (v20, 0)))))))))))
set_option maxHeartbeats 4000000 in
set_option maxRecDepth 100000 in
theorem m_X8_account {l : Launch} {κ : xKt} {wA : Nat → sAcc} {wT : sTxt} {wG : sRng} {wM : sMai} {wO : sOut} {fu : Nat} {x1 : Int32} {uF0 : Int32} {uF1 : xF64} {uF2 : xF64} {uF3 : xF64} {uF4 : xF64} {uF5 : Int32} {uF6 : Int32} {uF7 : Int32} {uF8 : xF32} {uF9 : Int32} {uF10 : Int32} {uF11 : Int64} {uF12 : xF32} {uF13 : Int32} {uF14 : Int32} {uF15 : Int32} {uF16 : xF32} {uF17 : xF32} {uF18 : Int32} {rr : Int64} {yF0 : Int32} (hf : f_X8_account fu x1 uF0 uF1 = some (rr, yF0)) : xMl l κ yX8_account cX8_account 2 (some .long) (xR 3 0 0) [.ref (xAd κ 245), .int x1] (wA, wT, wG, wM, (uF0, uF1, uF2, uF3, uF4, uF5, uF6, uF7, uF8, uF9, uF10, uF11, uF12, uF13, uF14, uF15, uF16, uF17, uF18), wO) (wA, wT, wG, wM, (yF0, uF1, uF2, uF3, uF4, uF5, uF6, uF7, uF8, uF9, uF10, uF11, uF12, uF13, uF14, uF15, uF16, uF17, uF18), wO) rr := by
  unfold f_X8_account at hf
  refine xMl_of pn_X8 (Nat.le_of_ble_eq_true rfl) ⟨rfl, rfl⟩ ?_
  intro A p e s m args below meth c ls Q hc hw hl K
  have hc : xC κ A p s m args meth c cX8_account RX8 2 (some .long) := hc
  have hx := hc.1.1
  have hb := hc.1.2.1
  have hl : lv_has ls 2 [(0, .ref (xAd κ 245)), (1, .int x1)] := hl
  refine lv_aload_n hx hb dX8_account_0 rfl (lv_at hl 0 rfl) ?_
  refine lv_iconst (v := 0) hx hb dX8_account_1 (by decide) ?_
  refine x_put (σ' := (wA, wT, wG, wM, (0, uF1, uF2, uF3, uF4, uF5, uF6, uF7, uF8, uF9, uF10, uF11, uF12, uF13, uF14, uF15, uF16, uF17, uF18), wO)) hc hw co_245 fX8_42 rfl rfl (Nat.le_of_ble_eq_true rfl) so_F_0 dX8_account_2 (fun H locs hw => ?_)
  refine lv_iload_n hx hb dX8_account_5 rfl (lv_at hl 1 rfl) ?_
  by_cases c1 : x1 = 0
  · have hf := xif_t c1 hf
    refine x_tabI (k := 0) (off := 58) (tgt := 64) hx hb dX8_account_6 c1 (by decide) (by decide) (by decide) ?_
    refine lv_aload_n hx hb dX8_account_64 rfl (lv_at hl 0 rfl) ?_
    refine x_get (v := .ref (xAd κ 246)) hc hw co_245 fX8_7 rfl dX8_account_65 ?_
    refine lv_iconst (v := 2) hx hb dX8_account_68 (by decide) ?_
    obtain ⟨k2, hf⟩ := xk_of hf
    refine x_lald (n := 304) (f := uF1) hc hw co_246 k2 dX8_account_69 ?_
    cases hf
    exact K _ _ _ _ dX8_account_70 hw
  have hf := xif_f c1 hf
  by_cases c3 : x1 = 1
  · have hf := xif_t c3 hf
    refine x_tabI (k := 1) (off := 65) (tgt := 71) hx hb dX8_account_6 c3 (by decide) (by decide) (by decide) ?_
    refine lv_aload_n hx hb dX8_account_71 rfl (lv_at hl 0 rfl) ?_
    refine x_get (v := .ref (xAd κ 246)) hc hw co_245 fX8_7 rfl dX8_account_72 ?_
    refine lv_iconst (v := 3) hx hb dX8_account_75 (by decide) ?_
    obtain ⟨k4, hf⟩ := xk_of hf
    refine x_lald (n := 304) (f := uF1) hc hw co_246 k4 dX8_account_76 ?_
    cases hf
    exact K _ _ _ _ dX8_account_77 hw
  have hf := xif_f c3 hf
  by_cases c5 : x1 = 2
  · have hf := xif_t c5 hf
    refine x_tabI (k := 2) (off := 72) (tgt := 78) hx hb dX8_account_6 c5 (by decide) (by decide) (by decide) ?_
    refine lv_aload_n hx hb dX8_account_78 rfl (lv_at hl 0 rfl) ?_
    refine x_get (v := .ref (xAd κ 246)) hc hw co_245 fX8_7 rfl dX8_account_79 ?_
    refine lv_iconst (v := 4) hx hb dX8_account_82 (by decide) ?_
    obtain ⟨k6, hf⟩ := xk_of hf
    refine x_lald (n := 304) (f := uF1) hc hw co_246 k6 dX8_account_83 ?_
    cases hf
    exact K _ _ _ _ dX8_account_84 hw
  have hf := xif_f c5 hf
  by_cases c7 : x1 = 3
  · have hf := xif_t c7 hf
    refine x_tabI (k := 3) (off := 79) (tgt := 85) hx hb dX8_account_6 c7 (by decide) (by decide) (by decide) ?_
    refine lv_aload_n hx hb dX8_account_85 rfl (lv_at hl 0 rfl) ?_
    obtain ⟨v8, h9, hf⟩ := xb1_of hf
    refine x_calllV (As := []) (rest := []) (σ' := (wA, wT, wG, wM, (0, uF1, uF2, uF3, uF4, uF5, uF6, uF7, uF8, uF9, uF10, uF11, uF12, uF13, uF14, uF15, uF16, uF17, uF18), wO)) hc hw hl.1 (m_X8_allDebts h9) kX8_253 co_245 rfl rfl ⟨rfl, rfl⟩ ⟨Nat.le_of_ble_eq_true rfl, Nat.le_of_ble_eq_true rfl⟩ ⟨Nat.zero_le _, Nat.zero_le _⟩ (Nat.le_of_ble_eq_true rfl) dX8_account_86 (fun H locs hw => ?_)
    cases hf
    exact K _ _ _ _ dX8_account_89 hw
  have hf := xif_f c7 hf
  by_cases c10 : x1 = 8
  · have hf := xif_t c10 hf
    refine x_tabI (k := 8) (off := 84) (tgt := 90) hx hb dX8_account_6 c10 (by decide) (by decide) (by decide) ?_
    refine lv_aload_n hx hb dX8_account_90 rfl (lv_at hl 0 rfl) ?_
    refine x_get (v := .ref (xAd κ 246)) hc hw co_245 fX8_7 rfl dX8_account_91 ?_
    refine lv_iconst (v := 0) hx hb dX8_account_94 (by decide) ?_
    obtain ⟨k11, hf⟩ := xk_of hf
    refine x_lald (n := 304) (f := uF1) hc hw co_246 k11 dX8_account_95 ?_
    cases hf
    exact K _ _ _ _ dX8_account_96 hw
  have hf := xif_f c10 hf
  by_cases c12 : x1 = 9
  · have hf := xif_t c12 hf
    refine x_tabI (k := 9) (off := 91) (tgt := 97) hx hb dX8_account_6 c12 (by decide) (by decide) (by decide) ?_
    refine lv_aload_n hx hb dX8_account_97 rfl (lv_at hl 0 rfl) ?_
    refine x_get (v := .ref (xAd κ 246)) hc hw co_245 fX8_7 rfl dX8_account_98 ?_
    refine lv_iconst (v := 1) hx hb dX8_account_101 (by decide) ?_
    obtain ⟨k13, hf⟩ := xk_of hf
    refine x_lald (n := 304) (f := uF1) hc hw co_246 k13 dX8_account_102 ?_
    cases hf
    exact K _ _ _ _ dX8_account_103 hw
  have hf := xif_f c12 hf
  by_cases c14 : x1 = 10
  · have hf := xif_t c14 hf
    refine x_tabI (k := 10) (off := 98) (tgt := 104) hx hb dX8_account_6 c14 (by decide) (by decide) (by decide) ?_
    refine lv_aload_n hx hb dX8_account_104 rfl (lv_at hl 0 rfl) ?_
    obtain ⟨v15, h16, hf⟩ := xb1_of hf
    refine x_calllV (As := []) (rest := []) (σ' := (wA, wT, wG, wM, (0, uF1, uF2, uF3, uF4, uF5, uF6, uF7, uF8, uF9, uF10, uF11, uF12, uF13, uF14, uF15, uF16, uF17, uF18), wO)) hc hw hl.1 (m_X8_rests h16) kX8_256 co_245 rfl rfl ⟨rfl, rfl⟩ ⟨Nat.le_of_ble_eq_true rfl, Nat.le_of_ble_eq_true rfl⟩ ⟨Nat.zero_le _, Nat.zero_le _⟩ (Nat.le_of_ble_eq_true rfl) dX8_account_105 (fun H locs hw => ?_)
    cases hf
    exact K _ _ _ _ dX8_account_108 hw
  have hf := xif_f c14 hf
  have c1 := x_neT (z := 0) c1 (by decide)
  have c3 := x_neT (z := 1) c3 (by decide)
  have c5 := x_neT (z := 2) c5 (by decide)
  have c7 := x_neT (z := 3) c7 (by decide)
  have c10 := x_neT (z := 8) c10 (by decide)
  have c12 := x_neT (z := 9) c12 (by decide)
  have c14 := x_neT (z := 10) c14 (by decide)
  refine x_tabD (tgt := 109) hx hb dX8_account_6 ?_ (by decide) ?_
  · by_cases q1 : x1.toInt < 0
    · exact Or.inl q1
    by_cases q2 : 10 < x1.toInt
    · exact Or.inr (Or.inl q2)
    have q3 : x1.toInt = 4 ∨ x1.toInt = 5 ∨ x1.toInt = 6 ∨ x1.toInt = 7 := by omega
    refine Or.inr (Or.inr ?_)
    rcases q3 with q3 | q3 | q3 | q3 <;> (rw [q3]; decide)
  refine lv_iload_n hx hb dX8_account_109 rfl (lv_at hl 1 rfl) ?_
  refine lv_iconst (v := 4) hx hb dX8_account_110 (by decide) ?_
  refine lv_bipush (v := 7) hx hb dX8_account_111 (by decide) ?_
  obtain ⟨v17, h18, hf⟩ := xb1_of hf
  refine x_calliS (As := [.int x1, .int 4, .int 7]) (rest := []) (σ' := (wA, wT, wG, wM, (0, uF1, uF2, uF3, uF4, uF5, uF6, uF7, uF8, uF9, uF10, uF11, uF12, uF13, uF14, uF15, uF16, uF17, uF18), wO)) hc hw hl.1 (m_X8_in h18) kX8_63 rfl rfl ⟨rfl, rfl⟩ ⟨Nat.le_of_ble_eq_true rfl, Nat.le_of_ble_eq_true rfl⟩ ⟨Nat.zero_le _, Nat.zero_le _⟩ (Nat.le_of_ble_eq_true rfl) dX8_account_113 (fun H locs hw => ?_)
  refine lv_if_ne (tgt := 125) hx hb dX8_account_116 (by decide) (fun c19 => ?_) (fun c19 => ?_)
  · have hf := xif_f c19 hf
    refine lv_aload_n hx hb dX8_account_125 rfl (lv_at hl 0 rfl) ?_
    refine lv_iload_n hx hb dX8_account_126 rfl (lv_at hl 1 rfl) ?_
    obtain ⟨v20, h21, hf⟩ := xb1_of hf
    refine x_calllV (As := [.int x1]) (rest := []) (σ' := (wA, wT, wG, wM, (0, uF1, uF2, uF3, uF4, uF5, uF6, uF7, uF8, uF9, uF10, uF11, uF12, uF13, uF14, uF15, uF16, uF17, uF18), wO)) hc hw hl.1 (m_X8_together h21) kX8_259 co_245 rfl rfl ⟨rfl, rfl⟩ ⟨Nat.le_of_ble_eq_true rfl, Nat.le_of_ble_eq_true rfl⟩ ⟨Nat.zero_le _, Nat.zero_le _⟩ (Nat.le_of_ble_eq_true rfl) dX8_account_127 (fun H locs hw => ?_)
    refine lv_goto (tgt := 138) hx hb dX8_account_130 (by decide) ?_
    cases hf
    exact K _ _ _ _ dX8_account_138 hw
  · have hf := xif_t c19 hf
    refine lv_iload_n hx hb dX8_account_119 rfl (lv_at hl 1 rfl) ?_
    refine lv_bipush (v := 11) hx hb dX8_account_120 (by decide) ?_
    refine lv_icmp_ne (tgt := 133) hx hb dX8_account_122 (by decide) (fun c22 => ?_) (fun c22 => ?_)
    · have hf := xif_f c22 hf
      refine lv_aload_n hx hb dX8_account_133 rfl (lv_at hl 0 rfl) ?_
      refine lv_iconst (v := 1) hx hb dX8_account_134 (by decide) ?_
      obtain ⟨v23, uF0_24, h25, hf⟩ := xb2_of hf
      refine x_calllV (As := [.int 1]) (rest := []) (σ' := (wA, wT, wG, wM, (uF0_24, uF1, uF2, uF3, uF4, uF5, uF6, uF7, uF8, uF9, uF10, uF11, uF12, uF13, uF14, uF15, uF16, uF17, uF18), wO)) hc hw hl.1 (m_X8_failsLong h25) kX8_153 co_245 rfl rfl ⟨rfl, rfl⟩ ⟨Nat.le_of_ble_eq_true rfl, Nat.le_of_ble_eq_true rfl⟩ ⟨Nat.zero_le _, Nat.zero_le _⟩ (Nat.le_of_ble_eq_true rfl) dX8_account_135 (fun H locs hw => ?_)
      cases hf
      exact K _ _ _ _ dX8_account_138 hw
    · have hf := xif_t c22 hf
      refine lv_aload_n hx hb dX8_account_125 rfl (lv_at hl 0 rfl) ?_
      refine lv_iload_n hx hb dX8_account_126 rfl (lv_at hl 1 rfl) ?_
      obtain ⟨v26, h27, hf⟩ := xb1_of hf
      refine x_calllV (As := [.int x1]) (rest := []) (σ' := (wA, wT, wG, wM, (0, uF1, uF2, uF3, uF4, uF5, uF6, uF7, uF8, uF9, uF10, uF11, uF12, uF13, uF14, uF15, uF16, uF17, uF18), wO)) hc hw hl.1 (m_X8_together h27) kX8_259 co_245 rfl rfl ⟨rfl, rfl⟩ ⟨Nat.le_of_ble_eq_true rfl, Nat.le_of_ble_eq_true rfl⟩ ⟨Nat.zero_le _, Nat.zero_le _⟩ (Nat.le_of_ble_eq_true rfl) dX8_account_127 (fun H locs hw => ?_)
      refine lv_goto (tgt := 138) hx hb dX8_account_130 (by decide) ?_
      cases hf
      exact K _ _ _ _ dX8_account_138 hw
def f_X8_entry (x1 : Int32) (x2 : Int32) (uF0 : Int32) (uF1 : xF64) : Option (Int64 × Int32) :=
  xk (xin 5 304) (xb1 (f_X8_in x1 0 ((uF1 (5 : Int32).toNatClampNeg).toInt32 - 1)) fun v2 => (if v2 = 0 then (xb2 (f_X8_failsLong 1 0) fun v5 uF0_6 => (some (v5, uF0_6))) else (if x2 = 0 then (xk (xin ((272 + (2 * x1)) + 0) 304) (some ((uF1 ((272 + (2 * x1)) + 0).toNatClampNeg), 0))) else (xk (xin ((272 + (2 * x1)) + 1) 304) (some ((uF1 ((272 + (2 * x1)) + 1).toNatClampNeg), 0))))))
set_option maxHeartbeats 4000000 in
set_option maxRecDepth 100000 in
theorem m_X8_entry {l : Launch} {κ : xKt} {wA : Nat → sAcc} {wT : sTxt} {wG : sRng} {wM : sMai} {wO : sOut}  {x1 : Int32} {x2 : Int32} {uF0 : Int32} {uF1 : xF64} {uF2 : xF64} {uF3 : xF64} {uF4 : xF64} {uF5 : Int32} {uF6 : Int32} {uF7 : Int32} {uF8 : xF32} {uF9 : Int32} {uF10 : Int32} {uF11 : Int64} {uF12 : xF32} {uF13 : Int32} {uF14 : Int32} {uF15 : Int32} {uF16 : xF32} {uF17 : xF32} {uF18 : Int32} {rr : Int64} {yF0 : Int32} (hf : f_X8_entry x1 x2 uF0 uF1 = some (rr, yF0)) : xMl l κ yX8_entry cX8_entry 3 (some .long) (xR 1 0 0) [.ref (xAd κ 245), .int x1, .int x2] (wA, wT, wG, wM, (uF0, uF1, uF2, uF3, uF4, uF5, uF6, uF7, uF8, uF9, uF10, uF11, uF12, uF13, uF14, uF15, uF16, uF17, uF18), wO) (wA, wT, wG, wM, (yF0, uF1, uF2, uF3, uF4, uF5, uF6, uF7, uF8, uF9, uF10, uF11, uF12, uF13, uF14, uF15, uF16, uF17, uF18), wO) rr := by
  unfold f_X8_entry at hf
  refine xMl_of pn_X8 (Nat.le_of_ble_eq_true rfl) ⟨rfl, rfl⟩ ?_
  intro A p e s m args below meth c ls Q hc hw hl K
  have hc : xC κ A p s m args meth c cX8_entry RX8 3 (some .long) := hc
  have hx := hc.1.1
  have hb := hc.1.2.1
  have hl : lv_has ls 3 [(0, .ref (xAd κ 245)), (1, .int x1), (2, .int x2)] := hl
  refine lv_aload_n hx hb dX8_entry_0 rfl (lv_at hl 0 rfl) ?_
  refine lv_iconst (v := 0) hx hb dX8_entry_1 (by decide) ?_
  refine x_put (σ' := (wA, wT, wG, wM, (0, uF1, uF2, uF3, uF4, uF5, uF6, uF7, uF8, uF9, uF10, uF11, uF12, uF13, uF14, uF15, uF16, uF17, uF18), wO)) hc hw co_245 fX8_42 rfl rfl (Nat.le_of_ble_eq_true rfl) so_F_0 dX8_entry_2 (fun H locs hw => ?_)
  refine lv_iload_n hx hb dX8_entry_5 rfl (lv_at hl 1 rfl) ?_
  refine lv_iconst (v := 0) hx hb dX8_entry_6 (by decide) ?_
  refine lv_aload_n hx hb dX8_entry_7 rfl (lv_at hl 0 rfl) ?_
  refine x_get (v := .ref (xAd κ 246)) hc hw co_245 fX8_7 rfl dX8_entry_8 ?_
  refine lv_iconst (v := 5) hx hb dX8_entry_11 (by decide) ?_
  obtain ⟨k1, hf⟩ := xk_of hf
  refine x_lald (n := 304) (f := uF1) hc hw co_246 k1 dX8_entry_12 ?_
  refine lv_l2i (v := (uF1 (5 : Int32).toNatClampNeg).toInt32) hx hb dX8_entry_13 rfl ?_
  refine lv_iconst (v := 1) hx hb dX8_entry_14 (by decide) ?_
  refine lv_isub hx hb dX8_entry_15 ?_
  obtain ⟨v2, h3, hf⟩ := xb1_of hf
  refine x_calliS (As := [.int x1, .int 0, .int ((uF1 (5 : Int32).toNatClampNeg).toInt32 - 1)]) (rest := []) (σ' := (wA, wT, wG, wM, (0, uF1, uF2, uF3, uF4, uF5, uF6, uF7, uF8, uF9, uF10, uF11, uF12, uF13, uF14, uF15, uF16, uF17, uF18), wO)) hc hw hl.1 (m_X8_in h3) kX8_63 rfl rfl ⟨rfl, rfl⟩ ⟨Nat.le_of_ble_eq_true rfl, Nat.le_of_ble_eq_true rfl⟩ ⟨Nat.zero_le _, Nat.zero_le _⟩ (Nat.le_of_ble_eq_true rfl) dX8_entry_16 (fun H locs hw => ?_)
  refine lv_if_eq (tgt := 47) hx hb dX8_entry_19 (by decide) (fun c4 => ?_) (fun c4 => ?_)
  · have hf := xif_t c4 hf
    refine lv_aload_n hx hb dX8_entry_47 rfl (lv_at hl 0 rfl) ?_
    refine lv_iconst (v := 1) hx hb dX8_entry_48 (by decide) ?_
    obtain ⟨v5, uF0_6, h7, hf⟩ := xb2_of hf
    refine x_calllV (As := [.int 1]) (rest := []) (σ' := (wA, wT, wG, wM, (uF0_6, uF1, uF2, uF3, uF4, uF5, uF6, uF7, uF8, uF9, uF10, uF11, uF12, uF13, uF14, uF15, uF16, uF17, uF18), wO)) hc hw hl.1 (m_X8_failsLong h7) kX8_153 co_245 rfl rfl ⟨rfl, rfl⟩ ⟨Nat.le_of_ble_eq_true rfl, Nat.le_of_ble_eq_true rfl⟩ ⟨Nat.zero_le _, Nat.zero_le _⟩ (Nat.le_of_ble_eq_true rfl) dX8_entry_49 (fun H locs hw => ?_)
    cases hf
    exact K _ _ _ _ dX8_entry_52 hw
  · have hf := xif_f c4 hf
    refine lv_aload_n hx hb dX8_entry_22 rfl (lv_at hl 0 rfl) ?_
    refine x_get (v := .ref (xAd κ 246)) hc hw co_245 fX8_7 rfl dX8_entry_23 ?_
    refine lv_sipush (v := 272) hx hb dX8_entry_26 (by decide) ?_
    refine lv_iconst (v := 2) hx hb dX8_entry_29 (by decide) ?_
    refine lv_iload_n hx hb dX8_entry_30 rfl (lv_at hl 1 rfl) ?_
    refine lv_imul hx hb dX8_entry_31 ?_
    refine lv_iadd hx hb dX8_entry_32 ?_
    refine lv_iload_n hx hb dX8_entry_33 rfl (lv_at hl 2 rfl) ?_
    refine lv_if_eq (tgt := 41) hx hb dX8_entry_34 (by decide) (fun c8 => ?_) (fun c8 => ?_)
    · have hf := xif_t c8 hf
      refine lv_iconst (v := 0) hx hb dX8_entry_41 (by decide) ?_
      refine lv_iadd hx hb dX8_entry_42 ?_
      obtain ⟨k9, hf⟩ := xk_of hf
      refine x_lald (n := 304) (f := uF1) hc hw co_246 k9 dX8_entry_43 ?_
      refine lv_goto (tgt := 52) hx hb dX8_entry_44 (by decide) ?_
      cases hf
      exact K _ _ _ _ dX8_entry_52 hw
    · have hf := xif_f c8 hf
      refine lv_iconst (v := 1) hx hb dX8_entry_37 (by decide) ?_
      refine lv_goto (tgt := 42) hx hb dX8_entry_38 (by decide) ?_
      refine lv_iadd hx hb dX8_entry_42 ?_
      obtain ⟨k10, hf⟩ := xk_of hf
      refine x_lald (n := 304) (f := uF1) hc hw co_246 k10 dX8_entry_43 ?_
      refine lv_goto (tgt := 52) hx hb dX8_entry_44 (by decide) ?_
      cases hf
      exact K _ _ _ _ dX8_entry_52 hw
def f_X8_quota_8 (fu : Nat) (uF1 : xF64) : Nat → (Int32) → (Int64) → (Int64) → (Int32) → (Int32) → Option (UInt64 × Int32)
  | 0, _, _, _, _, _ => none
  | n + 1, x1, x2, x4, x6, uF0 => xb1 (f_X8_claims uF1) fun v1 => (if v1 ≤ x6 then (xb1 (f_X8_in x1 0 1) fun v4 => (if v4 = 0 then (some (FP.dconst0, 1)) else (if x4 = 0 then (some (FP.dconst0, 2)) else (xk (xn64 (FP.ddiv (FP.l2d x2) (FP.l2d x4))) (some ((FP.ddiv (FP.l2d x2) (FP.l2d x4)), 0)))))) else (xb1 (f_X8_claimAt x6 0) fun v9 => (xk (xin v9 304) (xk (xin (14 + (uF1 v9.toNatClampNeg).toInt32) 304) (if (uF1 (14 + (uF1 v9.toNatClampNeg).toInt32).toNatClampNeg) = x1.toInt64 then (xb1 (f_X8_claimAt x6 3) fun v14 => (xk (xin v14 304) (xb1 (f_X8_claimAt x6 2) fun v17 => (xk (xin v17 304) (xb1 (f_X8_claimAt x6 5) fun v20 => (xk (xin v20 304) (f_X8_quota_8 fu uF1 n x1 (x2 + (uF1 v14.toNatClampNeg)) (x4 + ((uF1 v17.toNatClampNeg) - (uF1 v20.toNatClampNeg))) (x6 + 1) uF0))))))) else (f_X8_quota_8 fu uF1 n x1 (x2 + 0) (x4 + 0) (x6 + 1) uF0))))))
def f_X8_quota (fu : Nat) (x1 : Int32) (uF0 : Int32) (uF1 : xF64) : Option (UInt64 × Int32) :=
  f_X8_quota_8 fu uF1 fu x1 0 0 0 uF0
set_option maxHeartbeats 4000000 in
set_option maxRecDepth 100000 in
theorem l_X8_quota_8 {l : Launch} {κ : xKt} {wA : Nat → sAcc} {wT : sTxt} {wG : sRng} {wM : sMai} {wO : sOut} {fu : Nat} {uF1 : xF64} {uF2 : xF64} {uF3 : xF64} {uF4 : xF64} {uF5 : Int32} {uF6 : Int32} {uF7 : Int32} {uF8 : xF32} {uF9 : Int32} {uF10 : Int32} {uF11 : Int64} {uF12 : xF32} {uF13 : Int32} {uF14 : Int32} {uF15 : Int32} {uF16 : xF32} {uF17 : xF32} {uF18 : Int32} {A : Nat → Prop} {p : Program} {e : Env} {s : State} {m : MethodId} {args : Array Value} {below : List Frame} {meth : Method} {c : Code} {Q : State → Prop} {rr : UInt64} {yF0 : Int32}
    (hc : xC κ A p s m args meth c cX8_quota RX8 8 (some .double))
    (K : ∀ (pc : Nat) (ls : Array Slot) (H : Heap) (locs : List Loc), decode cX8_quota pc = .ok (.dreturn, 1) → xW κ A s (wA, wT, wG, wM, (yF0, uF1, uF2, uF3, uF4, uF5, uF6, uF7, uF8, uF9, uF10, uF11, uF12, uF13, uF14, uF15, uF16, uF17, uF18), wO) H locs → W p l e (xR 1 0 0) s m args below meth c H locs 0 0 Q (F0 m pc ls [.double rr])) :
    ∀ (n : Nat) (x1 : Int32) (x2 : Int64) (x4 : Int64) (x6 : Int32) (uF0 : Int32) (H : Heap) (locs : List Loc) (ls : Array Slot), f_X8_quota_8 fu uF1 n x1 x2 x4 x6 uF0 = some (rr, yF0) → xW κ A s (wA, wT, wG, wM, (uF0, uF1, uF2, uF3, uF4, uF5, uF6, uF7, uF8, uF9, uF10, uF11, uF12, uF13, uF14, uF15, uF16, uF17, uF18), wO) H locs → lv_has ls 8 [(0, .ref (xAd κ 245)), (1, .int x1), (2, .long x2), (4, .long x4), (6, .int x6)] → W p l e (xR 1 0 0) s m args below meth c H locs 0 0 Q (F0 m 8 ls []) := by
  have hx := hc.1.1
  have hb := hc.1.2.1
  intro n
  induction n with
  | zero =>
    intro x1 x2 x4 x6 uF0 H locs ls hf
    rw [f_X8_quota_8] at hf
    cases hf
  | succ n hi =>
    intro x1 x2 x4 x6 uF0 H locs ls hf hw hl
    rw [f_X8_quota_8] at hf
    refine lv_iload hx hb dX8_quota_8 (lv_at hl 4 rfl) ?_
    refine lv_aload_n hx hb dX8_quota_10 rfl (lv_at hl 0 rfl) ?_
    obtain ⟨v1, h2, hf⟩ := xb1_of hf
    refine x_calliV (As := []) (rest := [.int x6]) (σ' := (wA, wT, wG, wM, (uF0, uF1, uF2, uF3, uF4, uF5, uF6, uF7, uF8, uF9, uF10, uF11, uF12, uF13, uF14, uF15, uF16, uF17, uF18), wO)) hc hw hl.1 (m_X8_claims h2) kX8_67 co_245 rfl rfl ⟨rfl, rfl⟩ ⟨Nat.le_of_ble_eq_true rfl, Nat.le_of_ble_eq_true rfl⟩ ⟨Nat.zero_le _, Nat.zero_le _⟩ (Nat.le_of_ble_eq_true rfl) dX8_quota_11 (fun H locs hw => ?_)
    refine lv_icmp_ge (tgt := 120) hx hb dX8_quota_14 (by decide) (fun c3 => ?_) (fun c3 => ?_)
    · have hf := xif_t c3 hf
      refine lv_aload_n hx hb dX8_quota_120 rfl (lv_at hl 0 rfl) ?_
      refine lv_iload_n hx hb dX8_quota_121 rfl (lv_at hl 1 rfl) ?_
      refine lv_iconst (v := 0) hx hb dX8_quota_122 (by decide) ?_
      refine lv_iconst (v := 1) hx hb dX8_quota_123 (by decide) ?_
      obtain ⟨v4, h5, hf⟩ := xb1_of hf
      refine x_calliS (As := [.int x1, .int 0, .int 1]) (rest := [.ref (xAd κ 245)]) (σ' := (wA, wT, wG, wM, (uF0, uF1, uF2, uF3, uF4, uF5, uF6, uF7, uF8, uF9, uF10, uF11, uF12, uF13, uF14, uF15, uF16, uF17, uF18), wO)) hc hw hl.1 (m_X8_in h5) kX8_63 rfl rfl ⟨rfl, rfl⟩ ⟨Nat.le_of_ble_eq_true rfl, Nat.le_of_ble_eq_true rfl⟩ ⟨Nat.zero_le _, Nat.zero_le _⟩ (Nat.le_of_ble_eq_true rfl) dX8_quota_124 (fun H locs hw => ?_)
      refine lv_if_ne (tgt := 134) hx hb dX8_quota_127 (by decide) (fun c6 => ?_) (fun c6 => ?_)
      · have hf := xif_f c6 hf
        refine lv_lload hx hb dX8_quota_134 (lv_at hl 3 rfl) ?_
        refine lv_lconst (v := 0) hx hb dX8_quota_136 (by decide) ?_
        refine x_lcmp_ne (tgt := 145) hx hb dX8_quota_137 dX8_quota_138 (by decide) (fun c7 => ?_) (fun c7 => ?_)
        · have hf := xif_f c7 hf
          refine lv_iconst (v := 0) hx hb dX8_quota_145 (by decide) ?_
          refine x_put (σ' := (wA, wT, wG, wM, (0, uF1, uF2, uF3, uF4, uF5, uF6, uF7, uF8, uF9, uF10, uF11, uF12, uF13, uF14, uF15, uF16, uF17, uF18), wO)) hc hw co_245 fX8_42 rfl rfl (Nat.le_of_ble_eq_true rfl) so_F_0 dX8_quota_146 (fun H locs hw => ?_)
          refine lv_aload_n hx hb dX8_quota_149 rfl (lv_at hl 0 rfl) ?_
          refine x_get (v := .int 0) hc hw co_245 fX8_42 rfl dX8_quota_150 ?_
          refine lv_if_le (tgt := 160) hx hb dX8_quota_153 (by decide) (fun _ => ?_) (fun q => absurd q (by decide))
          refine lv_lload_n hx hb dX8_quota_160 rfl (lv_at hl 2 rfl) ?_
          refine lv_l2d hx hb dX8_quota_161 ?_
          refine lv_lload hx hb dX8_quota_162 (lv_at hl 3 rfl) ?_
          refine lv_l2d hx hb dX8_quota_164 ?_
          obtain ⟨k8, hf⟩ := xk_of hf
          refine lv_ddiv hx hb dX8_quota_165 (xn64_of k8) ?_
          cases hf
          exact K _ _ _ _ dX8_quota_166 hw
        · have hf := xif_t c7 hf
          refine lv_iconst (v := 2) hx hb dX8_quota_141 (by decide) ?_
          refine lv_goto (tgt := 146) hx hb dX8_quota_142 (by decide) ?_
          refine x_put (σ' := (wA, wT, wG, wM, (2, uF1, uF2, uF3, uF4, uF5, uF6, uF7, uF8, uF9, uF10, uF11, uF12, uF13, uF14, uF15, uF16, uF17, uF18), wO)) hc hw co_245 fX8_42 rfl rfl (Nat.le_of_ble_eq_true rfl) so_F_0 dX8_quota_146 (fun H locs hw => ?_)
          refine lv_aload_n hx hb dX8_quota_149 rfl (lv_at hl 0 rfl) ?_
          refine x_get (v := .int 2) hc hw co_245 fX8_42 rfl dX8_quota_150 ?_
          refine lv_if_le (tgt := 160) hx hb dX8_quota_153 (by decide) (fun q => absurd q (by decide)) (fun _ => ?_)
          refine lv_dconst0 hx hb dX8_quota_156 ?_
          refine lv_goto (tgt := 166) hx hb dX8_quota_157 (by decide) ?_
          cases hf
          exact K _ _ _ _ dX8_quota_166 hw
      · have hf := xif_t c6 hf
        refine lv_iconst (v := 1) hx hb dX8_quota_130 (by decide) ?_
        refine lv_goto (tgt := 146) hx hb dX8_quota_131 (by decide) ?_
        refine x_put (σ' := (wA, wT, wG, wM, (1, uF1, uF2, uF3, uF4, uF5, uF6, uF7, uF8, uF9, uF10, uF11, uF12, uF13, uF14, uF15, uF16, uF17, uF18), wO)) hc hw co_245 fX8_42 rfl rfl (Nat.le_of_ble_eq_true rfl) so_F_0 dX8_quota_146 (fun H locs hw => ?_)
        refine lv_aload_n hx hb dX8_quota_149 rfl (lv_at hl 0 rfl) ?_
        refine x_get (v := .int 1) hc hw co_245 fX8_42 rfl dX8_quota_150 ?_
        refine lv_if_le (tgt := 160) hx hb dX8_quota_153 (by decide) (fun q => absurd q (by decide)) (fun _ => ?_)
        refine lv_dconst0 hx hb dX8_quota_156 ?_
        refine lv_goto (tgt := 166) hx hb dX8_quota_157 (by decide) ?_
        cases hf
        exact K _ _ _ _ dX8_quota_166 hw
    · have hf := xif_f c3 hf
      refine lv_aload_n hx hb dX8_quota_17 rfl (lv_at hl 0 rfl) ?_
      refine x_get (v := .ref (xAd κ 246)) hc hw co_245 fX8_7 rfl dX8_quota_18 ?_
      refine lv_bipush (v := 14) hx hb dX8_quota_21 (by decide) ?_
      refine lv_aload_n hx hb dX8_quota_23 rfl (lv_at hl 0 rfl) ?_
      refine x_get (v := .ref (xAd κ 246)) hc hw co_245 fX8_7 rfl dX8_quota_24 ?_
      refine lv_aload_n hx hb dX8_quota_27 rfl (lv_at hl 0 rfl) ?_
      refine lv_iload hx hb dX8_quota_28 (lv_at hl 4 rfl) ?_
      refine lv_iconst (v := 0) hx hb dX8_quota_30 (by decide) ?_
      obtain ⟨v9, h10, hf⟩ := xb1_of hf
      refine x_calliV (As := [.int x6, .int 0]) (rest := [.ref (xAd κ 246), .int 14, .ref (xAd κ 246)]) (σ' := (wA, wT, wG, wM, (uF0, uF1, uF2, uF3, uF4, uF5, uF6, uF7, uF8, uF9, uF10, uF11, uF12, uF13, uF14, uF15, uF16, uF17, uF18), wO)) hc hw hl.1 (m_X8_claimAt h10) kX8_90 co_245 rfl rfl ⟨rfl, rfl⟩ ⟨Nat.le_of_ble_eq_true rfl, Nat.le_of_ble_eq_true rfl⟩ ⟨Nat.zero_le _, Nat.zero_le _⟩ (Nat.le_of_ble_eq_true rfl) dX8_quota_31 (fun H locs hw => ?_)
      obtain ⟨k11, hf⟩ := xk_of hf
      refine x_lald (n := 304) (f := uF1) hc hw co_246 k11 dX8_quota_34 ?_
      refine lv_l2i (v := (uF1 v9.toNatClampNeg).toInt32) hx hb dX8_quota_35 rfl ?_
      refine lv_iadd hx hb dX8_quota_36 ?_
      obtain ⟨k12, hf⟩ := xk_of hf
      refine x_lald (n := 304) (f := uF1) hc hw co_246 k12 dX8_quota_37 ?_
      refine lv_iload_n hx hb dX8_quota_38 rfl (lv_at hl 1 rfl) ?_
      refine lv_i2l (v := x1.toInt64) hx hb dX8_quota_39 rfl ?_
      refine x_lcmp_ne (tgt := 48) hx hb dX8_quota_40 dX8_quota_41 (by decide) (fun c13 => ?_) (fun c13 => ?_)
      · have hf := xif_f c13 hf
        refine lv_iconst (v := 0) hx hb dX8_quota_48 (by decide) ?_
        refine lv_istore (lv' := [(7, .int 0), (0, .ref (xAd κ 245)), (1, .int x1), (2, .long x2), (4, .long x4), (6, .int x6)]) hx hb dX8_quota_49 hl (by decide) rfl (fun ls hl => ?_)
        refine lv_lload_n hx hb dX8_quota_51 rfl (lv_at hl 3 rfl) ?_
        refine lv_iload hx hb dX8_quota_52 (lv_at hl 0 rfl) ?_
        refine lv_if_eq (tgt := 72) hx hb dX8_quota_54 (by decide) (fun _ => ?_) (fun q => absurd q (by decide))
        refine lv_lconst (v := 0) hx hb dX8_quota_72 (by decide) ?_
        refine lv_ladd hx hb dX8_quota_73 ?_
        refine lv_lstore_n (lv' := [(2, .long (x2 + 0)), (7, .int 0), (0, .ref (xAd κ 245)), (1, .int x1), (4, .long x4), (6, .int x6)]) hx hb dX8_quota_74 rfl hl (by decide) rfl (fun ls hl => ?_)
        refine lv_lload hx hb dX8_quota_75 (lv_at hl 4 rfl) ?_
        refine lv_iload hx hb dX8_quota_77 (lv_at hl 1 rfl) ?_
        refine lv_if_eq (tgt := 110) hx hb dX8_quota_79 (by decide) (fun _ => ?_) (fun q => absurd q (by decide))
        refine lv_lconst (v := 0) hx hb dX8_quota_110 (by decide) ?_
        refine lv_ladd hx hb dX8_quota_111 ?_
        refine lv_lstore (lv' := [(4, .long (x4 + 0)), (2, .long (x2 + 0)), (7, .int 0), (0, .ref (xAd κ 245)), (1, .int x1), (6, .int x6)]) hx hb dX8_quota_112 hl (by decide) rfl (fun ls hl => ?_)
        refine lv_iinc (v := (x6 + 1)) (lv' := [(6, .int (x6 + 1)), (4, .long (x4 + 0)), (2, .long (x2 + 0)), (7, .int 0), (0, .ref (xAd κ 245)), (1, .int x1)]) hx hb dX8_quota_114 hl (k := 5) rfl rfl (by decide) rfl (fun ls hl => ?_)
        refine lv_goto (tgt := 8) hx hb dX8_quota_117 (by decide) ?_
        exact hi _ _ _ _ _ _ _ _ hf hw (lv_sub hl [4, 5, 2, 1, 0] rfl)
      · have hf := xif_t c13 hf
        refine lv_iconst (v := 1) hx hb dX8_quota_44 (by decide) ?_
        refine lv_goto (tgt := 49) hx hb dX8_quota_45 (by decide) ?_
        refine lv_istore (lv' := [(7, .int 1), (0, .ref (xAd κ 245)), (1, .int x1), (2, .long x2), (4, .long x4), (6, .int x6)]) hx hb dX8_quota_49 hl (by decide) rfl (fun ls hl => ?_)
        refine lv_lload_n hx hb dX8_quota_51 rfl (lv_at hl 3 rfl) ?_
        refine lv_iload hx hb dX8_quota_52 (lv_at hl 0 rfl) ?_
        refine lv_if_eq (tgt := 72) hx hb dX8_quota_54 (by decide) (fun q => absurd q (by decide)) (fun _ => ?_)
        refine lv_aload_n hx hb dX8_quota_57 rfl (lv_at hl 1 rfl) ?_
        refine x_get (v := .ref (xAd κ 246)) hc hw co_245 fX8_7 rfl dX8_quota_58 ?_
        refine lv_aload_n hx hb dX8_quota_61 rfl (lv_at hl 1 rfl) ?_
        refine lv_iload hx hb dX8_quota_62 (lv_at hl 5 rfl) ?_
        refine lv_iconst (v := 3) hx hb dX8_quota_64 (by decide) ?_
        obtain ⟨v14, h15, hf⟩ := xb1_of hf
        refine x_calliV (As := [.int x6, .int 3]) (rest := [.ref (xAd κ 246), .long x2]) (σ' := (wA, wT, wG, wM, (uF0, uF1, uF2, uF3, uF4, uF5, uF6, uF7, uF8, uF9, uF10, uF11, uF12, uF13, uF14, uF15, uF16, uF17, uF18), wO)) hc hw hl.1 (m_X8_claimAt h15) kX8_90 co_245 rfl rfl ⟨rfl, rfl⟩ ⟨Nat.le_of_ble_eq_true rfl, Nat.le_of_ble_eq_true rfl⟩ ⟨Nat.zero_le _, Nat.zero_le _⟩ (Nat.le_of_ble_eq_true rfl) dX8_quota_65 (fun H locs hw => ?_)
        obtain ⟨k16, hf⟩ := xk_of hf
        refine x_lald (n := 304) (f := uF1) hc hw co_246 k16 dX8_quota_68 ?_
        refine lv_goto (tgt := 73) hx hb dX8_quota_69 (by decide) ?_
        refine lv_ladd hx hb dX8_quota_73 ?_
        refine lv_lstore_n (lv' := [(2, .long (x2 + (uF1 v14.toNatClampNeg))), (7, .int 1), (0, .ref (xAd κ 245)), (1, .int x1), (4, .long x4), (6, .int x6)]) hx hb dX8_quota_74 rfl hl (by decide) rfl (fun ls hl => ?_)
        refine lv_lload hx hb dX8_quota_75 (lv_at hl 4 rfl) ?_
        refine lv_iload hx hb dX8_quota_77 (lv_at hl 1 rfl) ?_
        refine lv_if_eq (tgt := 110) hx hb dX8_quota_79 (by decide) (fun q => absurd q (by decide)) (fun _ => ?_)
        refine lv_aload_n hx hb dX8_quota_82 rfl (lv_at hl 2 rfl) ?_
        refine x_get (v := .ref (xAd κ 246)) hc hw co_245 fX8_7 rfl dX8_quota_83 ?_
        refine lv_aload_n hx hb dX8_quota_86 rfl (lv_at hl 2 rfl) ?_
        refine lv_iload hx hb dX8_quota_87 (lv_at hl 5 rfl) ?_
        refine lv_iconst (v := 2) hx hb dX8_quota_89 (by decide) ?_
        obtain ⟨v17, h18, hf⟩ := xb1_of hf
        refine x_calliV (As := [.int x6, .int 2]) (rest := [.ref (xAd κ 246), .long x4]) (σ' := (wA, wT, wG, wM, (uF0, uF1, uF2, uF3, uF4, uF5, uF6, uF7, uF8, uF9, uF10, uF11, uF12, uF13, uF14, uF15, uF16, uF17, uF18), wO)) hc hw hl.1 (m_X8_claimAt h18) kX8_90 co_245 rfl rfl ⟨rfl, rfl⟩ ⟨Nat.le_of_ble_eq_true rfl, Nat.le_of_ble_eq_true rfl⟩ ⟨Nat.zero_le _, Nat.zero_le _⟩ (Nat.le_of_ble_eq_true rfl) dX8_quota_90 (fun H locs hw => ?_)
        obtain ⟨k19, hf⟩ := xk_of hf
        refine x_lald (n := 304) (f := uF1) hc hw co_246 k19 dX8_quota_93 ?_
        refine lv_aload_n hx hb dX8_quota_94 rfl (lv_at hl 2 rfl) ?_
        refine x_get (v := .ref (xAd κ 246)) hc hw co_245 fX8_7 rfl dX8_quota_95 ?_
        refine lv_aload_n hx hb dX8_quota_98 rfl (lv_at hl 2 rfl) ?_
        refine lv_iload hx hb dX8_quota_99 (lv_at hl 5 rfl) ?_
        refine lv_iconst (v := 5) hx hb dX8_quota_101 (by decide) ?_
        obtain ⟨v20, h21, hf⟩ := xb1_of hf
        refine x_calliV (As := [.int x6, .int 5]) (rest := [.ref (xAd κ 246), .long (uF1 v17.toNatClampNeg), .long x4]) (σ' := (wA, wT, wG, wM, (uF0, uF1, uF2, uF3, uF4, uF5, uF6, uF7, uF8, uF9, uF10, uF11, uF12, uF13, uF14, uF15, uF16, uF17, uF18), wO)) hc hw hl.1 (m_X8_claimAt h21) kX8_90 co_245 rfl rfl ⟨rfl, rfl⟩ ⟨Nat.le_of_ble_eq_true rfl, Nat.le_of_ble_eq_true rfl⟩ ⟨Nat.zero_le _, Nat.zero_le _⟩ (Nat.le_of_ble_eq_true rfl) dX8_quota_102 (fun H locs hw => ?_)
        obtain ⟨k22, hf⟩ := xk_of hf
        refine x_lald (n := 304) (f := uF1) hc hw co_246 k22 dX8_quota_105 ?_
        refine lv_lsub hx hb dX8_quota_106 ?_
        refine lv_goto (tgt := 111) hx hb dX8_quota_107 (by decide) ?_
        refine lv_ladd hx hb dX8_quota_111 ?_
        refine lv_lstore (lv' := [(4, .long (x4 + ((uF1 v17.toNatClampNeg) - (uF1 v20.toNatClampNeg)))), (2, .long (x2 + (uF1 v14.toNatClampNeg))), (7, .int 1), (0, .ref (xAd κ 245)), (1, .int x1), (6, .int x6)]) hx hb dX8_quota_112 hl (by decide) rfl (fun ls hl => ?_)
        refine lv_iinc (v := (x6 + 1)) (lv' := [(6, .int (x6 + 1)), (4, .long (x4 + ((uF1 v17.toNatClampNeg) - (uF1 v20.toNatClampNeg)))), (2, .long (x2 + (uF1 v14.toNatClampNeg))), (7, .int 1), (0, .ref (xAd κ 245)), (1, .int x1)]) hx hb dX8_quota_114 hl (k := 5) rfl rfl (by decide) rfl (fun ls hl => ?_)
        refine lv_goto (tgt := 8) hx hb dX8_quota_117 (by decide) ?_
        exact hi _ _ _ _ _ _ _ _ hf hw (lv_sub hl [4, 5, 2, 1, 0] rfl)
set_option maxHeartbeats 4000000 in
set_option maxRecDepth 100000 in
theorem m_X8_quota {l : Launch} {κ : xKt} {wA : Nat → sAcc} {wT : sTxt} {wG : sRng} {wM : sMai} {wO : sOut} {fu : Nat} {x1 : Int32} {uF0 : Int32} {uF1 : xF64} {uF2 : xF64} {uF3 : xF64} {uF4 : xF64} {uF5 : Int32} {uF6 : Int32} {uF7 : Int32} {uF8 : xF32} {uF9 : Int32} {uF10 : Int32} {uF11 : Int64} {uF12 : xF32} {uF13 : Int32} {uF14 : Int32} {uF15 : Int32} {uF16 : xF32} {uF17 : xF32} {uF18 : Int32} {rr : UInt64} {yF0 : Int32} (hf : f_X8_quota fu x1 uF0 uF1 = some (rr, yF0)) : xMd l κ yX8_quota cX8_quota 8 (some .double) (xR 1 0 0) [.ref (xAd κ 245), .int x1] (wA, wT, wG, wM, (uF0, uF1, uF2, uF3, uF4, uF5, uF6, uF7, uF8, uF9, uF10, uF11, uF12, uF13, uF14, uF15, uF16, uF17, uF18), wO) (wA, wT, wG, wM, (yF0, uF1, uF2, uF3, uF4, uF5, uF6, uF7, uF8, uF9, uF10, uF11, uF12, uF13, uF14, uF15, uF16, uF17, uF18), wO) rr := by
  unfold f_X8_quota at hf
  refine xMd_of pn_X8 (Nat.le_of_ble_eq_true rfl) ⟨rfl, rfl⟩ ?_
  intro A p e s m args below meth c ls Q hc hw hl K
  have hc : xC κ A p s m args meth c cX8_quota RX8 8 (some .double) := hc
  have hx := hc.1.1
  have hb := hc.1.2.1
  have hl : lv_has ls 8 [(0, .ref (xAd κ 245)), (1, .int x1)] := hl
  refine lv_lconst (v := 0) hx hb dX8_quota_0 (by decide) ?_
  refine lv_lstore_n (lv' := [(2, .long 0), (0, .ref (xAd κ 245)), (1, .int x1)]) hx hb dX8_quota_1 rfl hl (by decide) rfl (fun ls hl => ?_)
  refine lv_lconst (v := 0) hx hb dX8_quota_2 (by decide) ?_
  refine lv_lstore (lv' := [(4, .long 0), (2, .long 0), (0, .ref (xAd κ 245)), (1, .int x1)]) hx hb dX8_quota_3 hl (by decide) rfl (fun ls hl => ?_)
  refine lv_iconst (v := 0) hx hb dX8_quota_5 (by decide) ?_
  refine lv_istore (lv' := [(6, .int 0), (4, .long 0), (2, .long 0), (0, .ref (xAd κ 245)), (1, .int x1)]) hx hb dX8_quota_6 hl (by decide) rfl (fun ls hl => ?_)
  exact l_X8_quota_8 hc K fu _ _ _ _ _ _ _ _ hf hw (lv_sub hl [3, 4, 2, 1, 0] rfl)
def f_X8_append (x1 : Int32) (uF0 : Int32) (uF8 : xF32) (uF9 : Int32) : Option (Int32 × Int32 × xF32 × Int32) :=
  xb1 (f_X8_in x1 32 126) fun v1 => (if v1 = 0 then (xb2 (f_X8_fails 1 0) fun v9 uF0_10 => (some (v9, uF0_10, uF8, uF9))) else (if uF9 = 70 then (xb2 (f_X8_fails 2 0) fun v6 uF0_7 => (some (v6, uF0_7, uF8, uF9))) else (xk (xin uF9 70) (some ((uF9 + 1), 0, (upd uF8 uF9.toNatClampNeg x1), (uF9 + 1))))))
set_option maxHeartbeats 4000000 in
set_option maxRecDepth 100000 in
theorem m_X8_append {l : Launch} {κ : xKt} {wA : Nat → sAcc} {wT : sTxt} {wG : sRng} {wM : sMai} {wO : sOut}  {x1 : Int32} {uF0 : Int32} {uF1 : xF64} {uF2 : xF64} {uF3 : xF64} {uF4 : xF64} {uF5 : Int32} {uF6 : Int32} {uF7 : Int32} {uF8 : xF32} {uF9 : Int32} {uF10 : Int32} {uF11 : Int64} {uF12 : xF32} {uF13 : Int32} {uF14 : Int32} {uF15 : Int32} {uF16 : xF32} {uF17 : xF32} {uF18 : Int32} {rr : Int32} {yF0 : Int32} {yF8 : xF32} {yF9 : Int32} (hf : f_X8_append x1 uF0 uF8 uF9 = some (rr, yF0, yF8, yF9)) : xMi l κ yX8_append cX8_append 2 (some .int) (xR 1 0 0) [.ref (xAd κ 245), .int x1] (wA, wT, wG, wM, (uF0, uF1, uF2, uF3, uF4, uF5, uF6, uF7, uF8, uF9, uF10, uF11, uF12, uF13, uF14, uF15, uF16, uF17, uF18), wO) (wA, wT, wG, wM, (yF0, uF1, uF2, uF3, uF4, uF5, uF6, uF7, yF8, yF9, uF10, uF11, uF12, uF13, uF14, uF15, uF16, uF17, uF18), wO) rr := by
  unfold f_X8_append at hf
  refine xMi_of pn_X8 (Nat.le_of_ble_eq_true rfl) ⟨rfl, rfl⟩ ?_
  intro A p e s m args below meth c ls Q hc hw hl K
  have hc : xC κ A p s m args meth c cX8_append RX8 2 (some .int) := hc
  have hx := hc.1.1
  have hb := hc.1.2.1
  have hl : lv_has ls 2 [(0, .ref (xAd κ 245)), (1, .int x1)] := hl
  refine lv_aload_n hx hb dX8_append_0 rfl (lv_at hl 0 rfl) ?_
  refine lv_iconst (v := 0) hx hb dX8_append_1 (by decide) ?_
  refine x_put (σ' := (wA, wT, wG, wM, (0, uF1, uF2, uF3, uF4, uF5, uF6, uF7, uF8, uF9, uF10, uF11, uF12, uF13, uF14, uF15, uF16, uF17, uF18), wO)) hc hw co_245 fX8_42 rfl rfl (Nat.le_of_ble_eq_true rfl) so_F_0 dX8_append_2 (fun H locs hw => ?_)
  refine lv_iload_n hx hb dX8_append_5 rfl (lv_at hl 1 rfl) ?_
  refine lv_bipush (v := 32) hx hb dX8_append_6 (by decide) ?_
  refine lv_bipush (v := 126) hx hb dX8_append_8 (by decide) ?_
  obtain ⟨v1, h2, hf⟩ := xb1_of hf
  refine x_calliS (As := [.int x1, .int 32, .int 126]) (rest := []) (σ' := (wA, wT, wG, wM, (0, uF1, uF2, uF3, uF4, uF5, uF6, uF7, uF8, uF9, uF10, uF11, uF12, uF13, uF14, uF15, uF16, uF17, uF18), wO)) hc hw hl.1 (m_X8_in h2) kX8_63 rfl rfl ⟨rfl, rfl⟩ ⟨Nat.le_of_ble_eq_true rfl, Nat.le_of_ble_eq_true rfl⟩ ⟨Nat.zero_le _, Nat.zero_le _⟩ (Nat.le_of_ble_eq_true rfl) dX8_append_10 (fun H locs hw => ?_)
  refine lv_if_ne (tgt := 22) hx hb dX8_append_13 (by decide) (fun c3 => ?_) (fun c3 => ?_)
  · have hf := xif_f c3 hf
    refine lv_aload_n hx hb dX8_append_22 rfl (lv_at hl 0 rfl) ?_
    refine x_get (v := .int uF9) hc hw co_245 fX8_262 rfl dX8_append_23 ?_
    refine lv_bipush (v := 70) hx hb dX8_append_26 (by decide) ?_
    refine lv_icmp_ne (tgt := 37) hx hb dX8_append_28 (by decide) (fun c4 => ?_) (fun c4 => ?_)
    · have hf := xif_f c4 hf
      refine lv_aload_n hx hb dX8_append_37 rfl (lv_at hl 0 rfl) ?_
      refine x_get (v := .ref (xAd κ 250)) hc hw co_245 fX8_22 rfl dX8_append_38 ?_
      refine lv_aload_n hx hb dX8_append_41 rfl (lv_at hl 0 rfl) ?_
      refine x_get (v := .int uF9) hc hw co_245 fX8_262 rfl dX8_append_42 ?_
      refine lv_iload_n hx hb dX8_append_45 rfl (lv_at hl 1 rfl) ?_
      obtain ⟨k5, hf⟩ := xk_of hf
      refine x_iast (n := 70) (f := uF8) (σ' := (wA, wT, wG, wM, (0, uF1, uF2, uF3, uF4, uF5, uF6, uF7, (upd uF8 uF9.toNatClampNeg x1), uF9, uF10, uF11, uF12, uF13, uF14, uF15, uF16, uF17, uF18), wO)) hc hw co_250 k5 so_F_8 dX8_append_46 (fun H locs hw => ?_)
      refine lv_aload_n hx hb dX8_append_47 rfl (lv_at hl 0 rfl) ?_
      refine lv_dup hx hb dX8_append_48 rfl ?_
      refine x_get (v := .int uF9) hc hw co_245 fX8_262 rfl dX8_append_49 ?_
      refine lv_iconst (v := 1) hx hb dX8_append_52 (by decide) ?_
      refine lv_iadd hx hb dX8_append_53 ?_
      refine x_put (σ' := (wA, wT, wG, wM, (0, uF1, uF2, uF3, uF4, uF5, uF6, uF7, (upd uF8 uF9.toNatClampNeg x1), (uF9 + 1), uF10, uF11, uF12, uF13, uF14, uF15, uF16, uF17, uF18), wO)) hc hw co_245 fX8_262 rfl rfl (Nat.le_of_ble_eq_true rfl) so_F_9 dX8_append_54 (fun H locs hw => ?_)
      refine lv_aload_n hx hb dX8_append_57 rfl (lv_at hl 0 rfl) ?_
      refine x_get (v := .int (uF9 + 1)) hc hw co_245 fX8_262 rfl dX8_append_58 ?_
      cases hf
      exact K _ _ _ _ dX8_append_61 rfl hw
    · have hf := xif_t c4 hf
      refine lv_aload_n hx hb dX8_append_31 rfl (lv_at hl 0 rfl) ?_
      refine lv_iconst (v := 2) hx hb dX8_append_32 (by decide) ?_
      obtain ⟨v6, uF0_7, h8, hf⟩ := xb2_of hf
      refine x_calliV (As := [.int 2]) (rest := []) (σ' := (wA, wT, wG, wM, (uF0_7, uF1, uF2, uF3, uF4, uF5, uF6, uF7, uF8, uF9, uF10, uF11, uF12, uF13, uF14, uF15, uF16, uF17, uF18), wO)) hc hw hl.1 (m_X8_fails h8) kX8_79 co_245 rfl rfl ⟨rfl, rfl⟩ ⟨Nat.le_of_ble_eq_true rfl, Nat.le_of_ble_eq_true rfl⟩ ⟨Nat.zero_le _, Nat.zero_le _⟩ (Nat.le_of_ble_eq_true rfl) dX8_append_33 (fun H locs hw => ?_)
      cases hf
      exact K _ _ _ _ dX8_append_36 rfl hw
  · have hf := xif_t c3 hf
    refine lv_aload_n hx hb dX8_append_16 rfl (lv_at hl 0 rfl) ?_
    refine lv_iconst (v := 1) hx hb dX8_append_17 (by decide) ?_
    obtain ⟨v9, uF0_10, h11, hf⟩ := xb2_of hf
    refine x_calliV (As := [.int 1]) (rest := []) (σ' := (wA, wT, wG, wM, (uF0_10, uF1, uF2, uF3, uF4, uF5, uF6, uF7, uF8, uF9, uF10, uF11, uF12, uF13, uF14, uF15, uF16, uF17, uF18), wO)) hc hw hl.1 (m_X8_fails h11) kX8_79 co_245 rfl rfl ⟨rfl, rfl⟩ ⟨Nat.le_of_ble_eq_true rfl, Nat.le_of_ble_eq_true rfl⟩ ⟨Nat.zero_le _, Nat.zero_le _⟩ (Nat.le_of_ble_eq_true rfl) dX8_append_18 (fun H locs hw => ?_)
    cases hf
    exact K _ _ _ _ dX8_append_21 rfl hw
def f_X8_here (uF8 : xF32) (uF13 : Int32) (uF14 : Int32) : Option Int32 :=
  if uF14 ≤ uF13 then (some ((-1))) else (xk (xin uF13 70) (some ((uF8 uF13.toNatClampNeg))))
set_option maxHeartbeats 4000000 in
set_option maxRecDepth 100000 in
theorem m_X8_here {l : Launch} {κ : xKt} {wA : Nat → sAcc} {wT : sTxt} {wG : sRng} {wM : sMai} {wO : sOut}  {uF0 : Int32} {uF1 : xF64} {uF2 : xF64} {uF3 : xF64} {uF4 : xF64} {uF5 : Int32} {uF6 : Int32} {uF7 : Int32} {uF8 : xF32} {uF9 : Int32} {uF10 : Int32} {uF11 : Int64} {uF12 : xF32} {uF13 : Int32} {uF14 : Int32} {uF15 : Int32} {uF16 : xF32} {uF17 : xF32} {uF18 : Int32} {rr : Int32} (hf : f_X8_here uF8 uF13 uF14 = some rr) : xMi l κ yX8_here cX8_here 1 (some .int) (xR 0 0 0) [.ref (xAd κ 245)] (wA, wT, wG, wM, (uF0, uF1, uF2, uF3, uF4, uF5, uF6, uF7, uF8, uF9, uF10, uF11, uF12, uF13, uF14, uF15, uF16, uF17, uF18), wO) (wA, wT, wG, wM, (uF0, uF1, uF2, uF3, uF4, uF5, uF6, uF7, uF8, uF9, uF10, uF11, uF12, uF13, uF14, uF15, uF16, uF17, uF18), wO) rr := by
  unfold f_X8_here at hf
  refine xMi_of pn_X8 (Nat.le_of_ble_eq_true rfl) ⟨rfl, rfl⟩ ?_
  intro A p e s m args below meth c ls Q hc hw hl K
  have hc : xC κ A p s m args meth c cX8_here RX8 1 (some .int) := hc
  have hx := hc.1.1
  have hb := hc.1.2.1
  have hl : lv_has ls 1 [(0, .ref (xAd κ 245))] := hl
  refine lv_aload_n hx hb dX8_here_0 rfl (lv_at hl 0 rfl) ?_
  refine x_get (v := .int uF13) hc hw co_245 fX8_265 rfl dX8_here_1 ?_
  refine lv_aload_n hx hb dX8_here_4 rfl (lv_at hl 0 rfl) ?_
  refine x_get (v := .int uF14) hc hw co_245 fX8_268 rfl dX8_here_5 ?_
  refine lv_icmp_ge (tgt := 23) hx hb dX8_here_8 (by decide) (fun c1 => ?_) (fun c1 => ?_)
  · have hf := xif_t c1 hf
    refine lv_iconst (v := (-1)) hx hb dX8_here_23 (by decide) ?_
    cases hf
    exact K _ _ _ _ dX8_here_24 rfl hw
  · have hf := xif_f c1 hf
    refine lv_aload_n hx hb dX8_here_11 rfl (lv_at hl 0 rfl) ?_
    refine x_get (v := .ref (xAd κ 250)) hc hw co_245 fX8_22 rfl dX8_here_12 ?_
    refine lv_aload_n hx hb dX8_here_15 rfl (lv_at hl 0 rfl) ?_
    refine x_get (v := .int uF13) hc hw co_245 fX8_265 rfl dX8_here_16 ?_
    obtain ⟨k2, hf⟩ := xk_of hf
    refine x_iald (n := 70) (f := uF8) hc hw co_250 k2 dX8_here_19 ?_
    refine lv_goto (tgt := 24) hx hb dX8_here_20 (by decide) ?_
    cases hf
    exact K _ _ _ _ dX8_here_24 rfl hw
def f_X8_must (x1 : Int32) (uF8 : xF32) (uF13 : Int32) (uF14 : Int32) (uF15 : Int32) : Option (Int32 × Int32) :=
  if uF15 = 0 then (some ((uF13 + 0), 0)) else (xb1 (f_X8_here uF8 uF13 uF14) fun v2 => (if v2 = x1 then (some ((uF13 + 1), 1)) else (some ((uF13 + 0), 0))))
set_option maxHeartbeats 4000000 in
set_option maxRecDepth 100000 in
theorem m_X8_must {l : Launch} {κ : xKt} {wA : Nat → sAcc} {wT : sTxt} {wG : sRng} {wM : sMai} {wO : sOut}  {x1 : Int32} {uF0 : Int32} {uF1 : xF64} {uF2 : xF64} {uF3 : xF64} {uF4 : xF64} {uF5 : Int32} {uF6 : Int32} {uF7 : Int32} {uF8 : xF32} {uF9 : Int32} {uF10 : Int32} {uF11 : Int64} {uF12 : xF32} {uF13 : Int32} {uF14 : Int32} {uF15 : Int32} {uF16 : xF32} {uF17 : xF32} {uF18 : Int32} {yF13 : Int32} {yF15 : Int32} (hf : f_X8_must x1 uF8 uF13 uF14 uF15 = some (yF13, yF15)) : xMv l κ yX8_must cX8_must 2 none (xR 1 0 0) [.ref (xAd κ 245), .int x1] (wA, wT, wG, wM, (uF0, uF1, uF2, uF3, uF4, uF5, uF6, uF7, uF8, uF9, uF10, uF11, uF12, uF13, uF14, uF15, uF16, uF17, uF18), wO) (wA, wT, wG, wM, (uF0, uF1, uF2, uF3, uF4, uF5, uF6, uF7, uF8, uF9, uF10, uF11, uF12, yF13, uF14, yF15, uF16, uF17, uF18), wO) := by
  unfold f_X8_must at hf
  refine xMv_of pn_X8 (Nat.le_of_ble_eq_true rfl) ⟨rfl, rfl⟩ ?_
  intro A p e s m args below meth c ls Q hc hw hl K
  have hc : xC κ A p s m args meth c cX8_must RX8 2 none := hc
  have hx := hc.1.1
  have hb := hc.1.2.1
  have hl : lv_has ls 2 [(0, .ref (xAd κ 245)), (1, .int x1)] := hl
  refine lv_aload_n hx hb dX8_must_0 rfl (lv_at hl 0 rfl) ?_
  refine lv_aload_n hx hb dX8_must_1 rfl (lv_at hl 0 rfl) ?_
  refine x_get (v := .int uF15) hc hw co_245 fX8_271 rfl dX8_must_2 ?_
  refine lv_if_eq (tgt := 20) hx hb dX8_must_5 (by decide) (fun c1 => ?_) (fun c1 => ?_)
  · have hf := xif_t c1 hf
    refine lv_iconst (v := 0) hx hb dX8_must_20 (by decide) ?_
    refine x_put (σ' := (wA, wT, wG, wM, (uF0, uF1, uF2, uF3, uF4, uF5, uF6, uF7, uF8, uF9, uF10, uF11, uF12, uF13, uF14, 0, uF16, uF17, uF18), wO)) hc hw co_245 fX8_271 rfl rfl (Nat.le_of_ble_eq_true rfl) so_F_15 dX8_must_21 (fun H locs hw => ?_)
    refine lv_aload_n hx hb dX8_must_24 rfl (lv_at hl 0 rfl) ?_
    refine lv_dup hx hb dX8_must_25 rfl ?_
    refine x_get (v := .int uF13) hc hw co_245 fX8_265 rfl dX8_must_26 ?_
    refine lv_aload_n hx hb dX8_must_29 rfl (lv_at hl 0 rfl) ?_
    refine x_get (v := .int 0) hc hw co_245 fX8_271 rfl dX8_must_30 ?_
    refine lv_if_eq (tgt := 40) hx hb dX8_must_33 (by decide) (fun _ => ?_) (fun q => absurd q (by decide))
    refine lv_iconst (v := 0) hx hb dX8_must_40 (by decide) ?_
    refine lv_iadd hx hb dX8_must_41 ?_
    refine x_put (σ' := (wA, wT, wG, wM, (uF0, uF1, uF2, uF3, uF4, uF5, uF6, uF7, uF8, uF9, uF10, uF11, uF12, (uF13 + 0), uF14, 0, uF16, uF17, uF18), wO)) hc hw co_245 fX8_265 rfl rfl (Nat.le_of_ble_eq_true rfl) so_F_13 dX8_must_42 (fun H locs hw => ?_)
    cases hf
    exact K _ _ _ _ dX8_must_45 hw
  · have hf := xif_f c1 hf
    refine lv_aload_n hx hb dX8_must_8 rfl (lv_at hl 0 rfl) ?_
    obtain ⟨v2, h3, hf⟩ := xb1_of hf
    refine x_calliV (As := []) (rest := [.ref (xAd κ 245)]) (σ' := (wA, wT, wG, wM, (uF0, uF1, uF2, uF3, uF4, uF5, uF6, uF7, uF8, uF9, uF10, uF11, uF12, uF13, uF14, uF15, uF16, uF17, uF18), wO)) hc hw hl.1 (m_X8_here h3) kX8_275 co_245 rfl rfl ⟨rfl, rfl⟩ ⟨Nat.le_of_ble_eq_true rfl, Nat.le_of_ble_eq_true rfl⟩ ⟨Nat.zero_le _, Nat.zero_le _⟩ (Nat.le_of_ble_eq_true rfl) dX8_must_9 (fun H locs hw => ?_)
    refine lv_iload_n hx hb dX8_must_12 rfl (lv_at hl 1 rfl) ?_
    refine lv_icmp_ne (tgt := 20) hx hb dX8_must_13 (by decide) (fun c4 => ?_) (fun c4 => ?_)
    · have hf := xif_f c4 hf
      refine lv_iconst (v := 0) hx hb dX8_must_20 (by decide) ?_
      refine x_put (σ' := (wA, wT, wG, wM, (uF0, uF1, uF2, uF3, uF4, uF5, uF6, uF7, uF8, uF9, uF10, uF11, uF12, uF13, uF14, 0, uF16, uF17, uF18), wO)) hc hw co_245 fX8_271 rfl rfl (Nat.le_of_ble_eq_true rfl) so_F_15 dX8_must_21 (fun H locs hw => ?_)
      refine lv_aload_n hx hb dX8_must_24 rfl (lv_at hl 0 rfl) ?_
      refine lv_dup hx hb dX8_must_25 rfl ?_
      refine x_get (v := .int uF13) hc hw co_245 fX8_265 rfl dX8_must_26 ?_
      refine lv_aload_n hx hb dX8_must_29 rfl (lv_at hl 0 rfl) ?_
      refine x_get (v := .int 0) hc hw co_245 fX8_271 rfl dX8_must_30 ?_
      refine lv_if_eq (tgt := 40) hx hb dX8_must_33 (by decide) (fun _ => ?_) (fun q => absurd q (by decide))
      refine lv_iconst (v := 0) hx hb dX8_must_40 (by decide) ?_
      refine lv_iadd hx hb dX8_must_41 ?_
      refine x_put (σ' := (wA, wT, wG, wM, (uF0, uF1, uF2, uF3, uF4, uF5, uF6, uF7, uF8, uF9, uF10, uF11, uF12, (uF13 + 0), uF14, 0, uF16, uF17, uF18), wO)) hc hw co_245 fX8_265 rfl rfl (Nat.le_of_ble_eq_true rfl) so_F_13 dX8_must_42 (fun H locs hw => ?_)
      cases hf
      exact K _ _ _ _ dX8_must_45 hw
    · have hf := xif_t c4 hf
      refine lv_iconst (v := 1) hx hb dX8_must_16 (by decide) ?_
      refine lv_goto (tgt := 21) hx hb dX8_must_17 (by decide) ?_
      refine x_put (σ' := (wA, wT, wG, wM, (uF0, uF1, uF2, uF3, uF4, uF5, uF6, uF7, uF8, uF9, uF10, uF11, uF12, uF13, uF14, 1, uF16, uF17, uF18), wO)) hc hw co_245 fX8_271 rfl rfl (Nat.le_of_ble_eq_true rfl) so_F_15 dX8_must_21 (fun H locs hw => ?_)
      refine lv_aload_n hx hb dX8_must_24 rfl (lv_at hl 0 rfl) ?_
      refine lv_dup hx hb dX8_must_25 rfl ?_
      refine x_get (v := .int uF13) hc hw co_245 fX8_265 rfl dX8_must_26 ?_
      refine lv_aload_n hx hb dX8_must_29 rfl (lv_at hl 0 rfl) ?_
      refine x_get (v := .int 1) hc hw co_245 fX8_271 rfl dX8_must_30 ?_
      refine lv_if_eq (tgt := 40) hx hb dX8_must_33 (by decide) (fun q => absurd q (by decide)) (fun _ => ?_)
      refine lv_iconst (v := 1) hx hb dX8_must_36 (by decide) ?_
      refine lv_goto (tgt := 41) hx hb dX8_must_37 (by decide) ?_
      refine lv_iadd hx hb dX8_must_41 ?_
      refine x_put (σ' := (wA, wT, wG, wM, (uF0, uF1, uF2, uF3, uF4, uF5, uF6, uF7, uF8, uF9, uF10, uF11, uF12, (uF13 + 1), uF14, 1, uF16, uF17, uF18), wO)) hc hw co_245 fX8_265 rfl rfl (Nat.le_of_ble_eq_true rfl) so_F_13 dX8_must_42 (fun H locs hw => ?_)
      cases hf
      exact K _ _ _ _ dX8_must_45 hw
def f_X8_number_34 (fu : Nat) (uF8 : xF32) (uF14 : Int32) : Nat → (Int32) → (Int32) → (Int32) → (Int32) → (Int32) → Option (Int32 × Int32 × Int32)
  | 0, _, _, _, _, _ => none
  | n + 1, x1, x2, x3, uF13, uF15 => if x1 ≤ x3 then (some (x2, uF13, uF15)) else (if uF15 = 0 then (some (x2, uF13, uF15)) else (xb1 (f_X8_here uF8 uF13 uF14) fun v4 => (xb1 (f_X8_in v4 48 57) fun v6 => (if v6 = 0 then (some (x2, uF13, uF15)) else (xb1 (f_X8_here uF8 uF13 uF14) fun v9 => (f_X8_number_34 fu uF8 uF14 n x1 (((10 * x2) + v9) - 48) (x3 + 1) (uF13 + 1) uF15))))))
def f_X8_number (fu : Nat) (x1 : Int32) (uF8 : xF32) (uF13 : Int32) (uF14 : Int32) (uF15 : Int32) : Option (Int32 × Int32 × Int32) :=
  if uF15 = 0 then (f_X8_number_34 fu uF8 uF14 fu x1 0 0 uF13 0) else (xb1 (f_X8_here uF8 uF13 uF14) fun v11 => (xb1 (f_X8_in v11 48 57) fun v13 => (if v13 = 0 then (f_X8_number_34 fu uF8 uF14 fu x1 0 0 uF13 0) else (f_X8_number_34 fu uF8 uF14 fu x1 0 0 uF13 1))))
set_option maxHeartbeats 4000000 in
set_option maxRecDepth 100000 in
theorem l_X8_number_34 {l : Launch} {κ : xKt} {wA : Nat → sAcc} {wT : sTxt} {wG : sRng} {wM : sMai} {wO : sOut} {fu : Nat} {uF0 : Int32} {uF1 : xF64} {uF2 : xF64} {uF3 : xF64} {uF4 : xF64} {uF5 : Int32} {uF6 : Int32} {uF7 : Int32} {uF8 : xF32} {uF9 : Int32} {uF10 : Int32} {uF11 : Int64} {uF12 : xF32} {uF14 : Int32} {uF16 : xF32} {uF17 : xF32} {uF18 : Int32} {A : Nat → Prop} {p : Program} {e : Env} {s : State} {m : MethodId} {args : Array Value} {below : List Frame} {meth : Method} {c : Code} {Q : State → Prop} {rr : Int32} {yF13 : Int32} {yF15 : Int32}
    (hc : xC κ A p s m args meth c cX8_number RX8 4 (some .int))
    (K : ∀ (pc : Nat) (ls : Array Slot) (H : Heap) (locs : List Loc), decode cX8_number pc = .ok (.ireturn, 1) → narrow .int (.int rr) = .int rr → xW κ A s (wA, wT, wG, wM, (uF0, uF1, uF2, uF3, uF4, uF5, uF6, uF7, uF8, uF9, uF10, uF11, uF12, yF13, uF14, yF15, uF16, uF17, uF18), wO) H locs → W p l e (xR 1 0 0) s m args below meth c H locs 0 0 Q (F0 m pc ls [.int rr])) :
    ∀ (n : Nat) (x1 : Int32) (x2 : Int32) (x3 : Int32) (uF13 : Int32) (uF15 : Int32) (H : Heap) (locs : List Loc) (ls : Array Slot), f_X8_number_34 fu uF8 uF14 n x1 x2 x3 uF13 uF15 = some (rr, yF13, yF15) → xW κ A s (wA, wT, wG, wM, (uF0, uF1, uF2, uF3, uF4, uF5, uF6, uF7, uF8, uF9, uF10, uF11, uF12, uF13, uF14, uF15, uF16, uF17, uF18), wO) H locs → lv_has ls 4 [(0, .ref (xAd κ 245)), (1, .int x1), (2, .int x2), (3, .int x3)] → W p l e (xR 1 0 0) s m args below meth c H locs 0 0 Q (F0 m 34 ls []) := by
  have hx := hc.1.1
  have hb := hc.1.2.1
  intro n
  induction n with
  | zero =>
    intro x1 x2 x3 uF13 uF15 H locs ls hf
    rw [f_X8_number_34] at hf
    cases hf
  | succ n hi =>
    intro x1 x2 x3 uF13 uF15 H locs ls hf hw hl
    rw [f_X8_number_34] at hf
    refine lv_iload_n hx hb dX8_number_34 rfl (lv_at hl 3 rfl) ?_
    refine lv_iload_n hx hb dX8_number_35 rfl (lv_at hl 1 rfl) ?_
    refine lv_icmp_ge (tgt := 89) hx hb dX8_number_36 (by decide) (fun c2 => ?_) (fun c2 => ?_)
    · have hf := xif_t c2 hf
      refine lv_iload_n hx hb dX8_number_89 rfl (lv_at hl 2 rfl) ?_
      cases hf
      exact K _ _ _ _ dX8_number_90 rfl hw
    · have hf := xif_f c2 hf
      refine lv_aload_n hx hb dX8_number_39 rfl (lv_at hl 0 rfl) ?_
      refine x_get (v := .int uF15) hc hw co_245 fX8_271 rfl dX8_number_40 ?_
      refine lv_if_eq (tgt := 89) hx hb dX8_number_43 (by decide) (fun c3 => ?_) (fun c3 => ?_)
      · have hf := xif_t c3 hf
        refine lv_iload_n hx hb dX8_number_89 rfl (lv_at hl 2 rfl) ?_
        cases hf
        exact K _ _ _ _ dX8_number_90 rfl hw
      · have hf := xif_f c3 hf
        refine lv_aload_n hx hb dX8_number_46 rfl (lv_at hl 0 rfl) ?_
        obtain ⟨v4, h5, hf⟩ := xb1_of hf
        refine x_calliV (As := []) (rest := []) (σ' := (wA, wT, wG, wM, (uF0, uF1, uF2, uF3, uF4, uF5, uF6, uF7, uF8, uF9, uF10, uF11, uF12, uF13, uF14, uF15, uF16, uF17, uF18), wO)) hc hw hl.1 (m_X8_here h5) kX8_275 co_245 rfl rfl ⟨rfl, rfl⟩ ⟨Nat.le_of_ble_eq_true rfl, Nat.le_of_ble_eq_true rfl⟩ ⟨Nat.zero_le _, Nat.zero_le _⟩ (Nat.le_of_ble_eq_true rfl) dX8_number_47 (fun H locs hw => ?_)
        refine lv_bipush (v := 48) hx hb dX8_number_50 (by decide) ?_
        refine lv_bipush (v := 57) hx hb dX8_number_52 (by decide) ?_
        obtain ⟨v6, h7, hf⟩ := xb1_of hf
        refine x_calliS (As := [.int v4, .int 48, .int 57]) (rest := []) (σ' := (wA, wT, wG, wM, (uF0, uF1, uF2, uF3, uF4, uF5, uF6, uF7, uF8, uF9, uF10, uF11, uF12, uF13, uF14, uF15, uF16, uF17, uF18), wO)) hc hw hl.1 (m_X8_in h7) kX8_63 rfl rfl ⟨rfl, rfl⟩ ⟨Nat.le_of_ble_eq_true rfl, Nat.le_of_ble_eq_true rfl⟩ ⟨Nat.zero_le _, Nat.zero_le _⟩ (Nat.le_of_ble_eq_true rfl) dX8_number_54 (fun H locs hw => ?_)
        refine lv_if_eq (tgt := 89) hx hb dX8_number_57 (by decide) (fun c8 => ?_) (fun c8 => ?_)
        · have hf := xif_t c8 hf
          refine lv_iload_n hx hb dX8_number_89 rfl (lv_at hl 2 rfl) ?_
          cases hf
          exact K _ _ _ _ dX8_number_90 rfl hw
        · have hf := xif_f c8 hf
          refine lv_bipush (v := 10) hx hb dX8_number_60 (by decide) ?_
          refine lv_iload_n hx hb dX8_number_62 rfl (lv_at hl 2 rfl) ?_
          refine lv_imul hx hb dX8_number_63 ?_
          refine lv_aload_n hx hb dX8_number_64 rfl (lv_at hl 0 rfl) ?_
          obtain ⟨v9, h10, hf⟩ := xb1_of hf
          refine x_calliV (As := []) (rest := [.int (10 * x2)]) (σ' := (wA, wT, wG, wM, (uF0, uF1, uF2, uF3, uF4, uF5, uF6, uF7, uF8, uF9, uF10, uF11, uF12, uF13, uF14, uF15, uF16, uF17, uF18), wO)) hc hw hl.1 (m_X8_here h10) kX8_275 co_245 rfl rfl ⟨rfl, rfl⟩ ⟨Nat.le_of_ble_eq_true rfl, Nat.le_of_ble_eq_true rfl⟩ ⟨Nat.zero_le _, Nat.zero_le _⟩ (Nat.le_of_ble_eq_true rfl) dX8_number_65 (fun H locs hw => ?_)
          refine lv_iadd hx hb dX8_number_68 ?_
          refine lv_bipush (v := 48) hx hb dX8_number_69 (by decide) ?_
          refine lv_isub hx hb dX8_number_71 ?_
          refine lv_istore_n (lv' := [(2, .int (((10 * x2) + v9) - 48)), (0, .ref (xAd κ 245)), (1, .int x1), (3, .int x3)]) hx hb dX8_number_72 rfl hl (by decide) rfl (fun ls hl => ?_)
          refine lv_aload_n hx hb dX8_number_73 rfl (lv_at hl 1 rfl) ?_
          refine lv_dup hx hb dX8_number_74 rfl ?_
          refine x_get (v := .int uF13) hc hw co_245 fX8_265 rfl dX8_number_75 ?_
          refine lv_iconst (v := 1) hx hb dX8_number_78 (by decide) ?_
          refine lv_iadd hx hb dX8_number_79 ?_
          refine x_put (σ' := (wA, wT, wG, wM, (uF0, uF1, uF2, uF3, uF4, uF5, uF6, uF7, uF8, uF9, uF10, uF11, uF12, (uF13 + 1), uF14, uF15, uF16, uF17, uF18), wO)) hc hw co_245 fX8_265 rfl rfl (Nat.le_of_ble_eq_true rfl) so_F_13 dX8_number_80 (fun H locs hw => ?_)
          refine lv_iinc (v := (x3 + 1)) (lv' := [(3, .int (x3 + 1)), (2, .int (((10 * x2) + v9) - 48)), (0, .ref (xAd κ 245)), (1, .int x1)]) hx hb dX8_number_83 hl (k := 3) rfl rfl (by decide) rfl (fun ls hl => ?_)
          refine lv_goto (tgt := 34) hx hb dX8_number_86 (by decide) ?_
          exact hi _ _ _ _ _ _ _ _ hf hw (lv_sub hl [2, 3, 1, 0] rfl)
set_option maxHeartbeats 4000000 in
set_option maxRecDepth 100000 in
theorem m_X8_number {l : Launch} {κ : xKt} {wA : Nat → sAcc} {wT : sTxt} {wG : sRng} {wM : sMai} {wO : sOut} {fu : Nat} {x1 : Int32} {uF0 : Int32} {uF1 : xF64} {uF2 : xF64} {uF3 : xF64} {uF4 : xF64} {uF5 : Int32} {uF6 : Int32} {uF7 : Int32} {uF8 : xF32} {uF9 : Int32} {uF10 : Int32} {uF11 : Int64} {uF12 : xF32} {uF13 : Int32} {uF14 : Int32} {uF15 : Int32} {uF16 : xF32} {uF17 : xF32} {uF18 : Int32} {rr : Int32} {yF13 : Int32} {yF15 : Int32} (hf : f_X8_number fu x1 uF8 uF13 uF14 uF15 = some (rr, yF13, yF15)) : xMi l κ yX8_number cX8_number 4 (some .int) (xR 1 0 0) [.ref (xAd κ 245), .int x1] (wA, wT, wG, wM, (uF0, uF1, uF2, uF3, uF4, uF5, uF6, uF7, uF8, uF9, uF10, uF11, uF12, uF13, uF14, uF15, uF16, uF17, uF18), wO) (wA, wT, wG, wM, (uF0, uF1, uF2, uF3, uF4, uF5, uF6, uF7, uF8, uF9, uF10, uF11, uF12, yF13, uF14, yF15, uF16, uF17, uF18), wO) rr := by
  unfold f_X8_number at hf
  refine xMi_of pn_X8 (Nat.le_of_ble_eq_true rfl) ⟨rfl, rfl⟩ ?_
  intro A p e s m args below meth c ls Q hc hw hl K
  have hc : xC κ A p s m args meth c cX8_number RX8 4 (some .int) := hc
  have hx := hc.1.1
  have hb := hc.1.2.1
  have hl : lv_has ls 4 [(0, .ref (xAd κ 245)), (1, .int x1)] := hl
  refine lv_iconst (v := 0) hx hb dX8_number_0 (by decide) ?_
  refine lv_istore_n (lv' := [(2, .int 0), (0, .ref (xAd κ 245)), (1, .int x1)]) hx hb dX8_number_1 rfl hl (by decide) rfl (fun ls hl => ?_)
  refine lv_aload_n hx hb dX8_number_2 rfl (lv_at hl 1 rfl) ?_
  refine lv_aload_n hx hb dX8_number_3 rfl (lv_at hl 1 rfl) ?_
  refine x_get (v := .int uF15) hc hw co_245 fX8_271 rfl dX8_number_4 ?_
  refine lv_if_eq (tgt := 28) hx hb dX8_number_7 (by decide) (fun c1 => ?_) (fun c1 => ?_)
  · have hf := xif_t c1 hf
    refine lv_iconst (v := 0) hx hb dX8_number_28 (by decide) ?_
    refine x_put (σ' := (wA, wT, wG, wM, (uF0, uF1, uF2, uF3, uF4, uF5, uF6, uF7, uF8, uF9, uF10, uF11, uF12, uF13, uF14, 0, uF16, uF17, uF18), wO)) hc hw co_245 fX8_271 rfl rfl (Nat.le_of_ble_eq_true rfl) so_F_15 dX8_number_29 (fun H locs hw => ?_)
    refine lv_iconst (v := 0) hx hb dX8_number_32 (by decide) ?_
    refine lv_istore_n (lv' := [(3, .int 0), (2, .int 0), (0, .ref (xAd κ 245)), (1, .int x1)]) hx hb dX8_number_33 rfl hl (by decide) rfl (fun ls hl => ?_)
    exact l_X8_number_34 hc K fu _ _ _ _ _ _ _ _ hf hw (lv_sub hl [2, 3, 1, 0] rfl)
  · have hf := xif_f c1 hf
    refine lv_aload_n hx hb dX8_number_10 rfl (lv_at hl 1 rfl) ?_
    obtain ⟨v11, h12, hf⟩ := xb1_of hf
    refine x_calliV (As := []) (rest := [.ref (xAd κ 245)]) (σ' := (wA, wT, wG, wM, (uF0, uF1, uF2, uF3, uF4, uF5, uF6, uF7, uF8, uF9, uF10, uF11, uF12, uF13, uF14, uF15, uF16, uF17, uF18), wO)) hc hw hl.1 (m_X8_here h12) kX8_275 co_245 rfl rfl ⟨rfl, rfl⟩ ⟨Nat.le_of_ble_eq_true rfl, Nat.le_of_ble_eq_true rfl⟩ ⟨Nat.zero_le _, Nat.zero_le _⟩ (Nat.le_of_ble_eq_true rfl) dX8_number_11 (fun H locs hw => ?_)
    refine lv_bipush (v := 48) hx hb dX8_number_14 (by decide) ?_
    refine lv_bipush (v := 57) hx hb dX8_number_16 (by decide) ?_
    obtain ⟨v13, h14, hf⟩ := xb1_of hf
    refine x_calliS (As := [.int v11, .int 48, .int 57]) (rest := [.ref (xAd κ 245)]) (σ' := (wA, wT, wG, wM, (uF0, uF1, uF2, uF3, uF4, uF5, uF6, uF7, uF8, uF9, uF10, uF11, uF12, uF13, uF14, uF15, uF16, uF17, uF18), wO)) hc hw hl.1 (m_X8_in h14) kX8_63 rfl rfl ⟨rfl, rfl⟩ ⟨Nat.le_of_ble_eq_true rfl, Nat.le_of_ble_eq_true rfl⟩ ⟨Nat.zero_le _, Nat.zero_le _⟩ (Nat.le_of_ble_eq_true rfl) dX8_number_18 (fun H locs hw => ?_)
    refine lv_if_eq (tgt := 28) hx hb dX8_number_21 (by decide) (fun c15 => ?_) (fun c15 => ?_)
    · have hf := xif_t c15 hf
      refine lv_iconst (v := 0) hx hb dX8_number_28 (by decide) ?_
      refine x_put (σ' := (wA, wT, wG, wM, (uF0, uF1, uF2, uF3, uF4, uF5, uF6, uF7, uF8, uF9, uF10, uF11, uF12, uF13, uF14, 0, uF16, uF17, uF18), wO)) hc hw co_245 fX8_271 rfl rfl (Nat.le_of_ble_eq_true rfl) so_F_15 dX8_number_29 (fun H locs hw => ?_)
      refine lv_iconst (v := 0) hx hb dX8_number_32 (by decide) ?_
      refine lv_istore_n (lv' := [(3, .int 0), (2, .int 0), (0, .ref (xAd κ 245)), (1, .int x1)]) hx hb dX8_number_33 rfl hl (by decide) rfl (fun ls hl => ?_)
      exact l_X8_number_34 hc K fu _ _ _ _ _ _ _ _ hf hw (lv_sub hl [2, 3, 1, 0] rfl)
    · have hf := xif_f c15 hf
      refine lv_iconst (v := 1) hx hb dX8_number_24 (by decide) ?_
      refine lv_goto (tgt := 29) hx hb dX8_number_25 (by decide) ?_
      refine x_put (σ' := (wA, wT, wG, wM, (uF0, uF1, uF2, uF3, uF4, uF5, uF6, uF7, uF8, uF9, uF10, uF11, uF12, uF13, uF14, 1, uF16, uF17, uF18), wO)) hc hw co_245 fX8_271 rfl rfl (Nat.le_of_ble_eq_true rfl) so_F_15 dX8_number_29 (fun H locs hw => ?_)
      refine lv_iconst (v := 0) hx hb dX8_number_32 (by decide) ?_
      refine lv_istore_n (lv' := [(3, .int 0), (2, .int 0), (0, .ref (xAd κ 245)), (1, .int x1)]) hx hb dX8_number_33 rfl hl (by decide) rfl (fun ls hl => ?_)
      exact l_X8_number_34 hc K fu _ _ _ _ _ _ _ _ hf hw (lv_sub hl [2, 3, 1, 0] rfl)
def j_X8_readsEntry_210 (fu : Nat) (uF8 : xF32) (uF14 : Int32) (uF13 : Int32) (uF15 : Int32) (uF16 : xF32) (uF17 : xF32) (uF18 : Int32) : Option (Int32 × Int32 × xF32 × xF32 × Int32) :=
  xb2 (f_X8_must 59 uF8 uF13 uF14 uF15) fun uF13_16 uF15_17 => (some (uF13_16, uF15_17, uF16, uF17, (uF18 + 1)))
def j_X8_readsEntry_178 (fu : Nat) (uF8 : xF32) (uF14 : Int32) (x1 : Int32) (x2 : Int32) (uF13 : Int32) (uF15 : Int32) (uF16 : xF32) (uF17 : xF32) (uF18 : Int32) : Option (Int32 × Int32 × xF32 × xF32 × Int32) :=
  if x2 = 103 then (j_X8_readsEntry_210 fu uF8 uF14 uF13 uF15 uF16 uF17 uF18) else (if x2 = 110 then (j_X8_readsEntry_210 fu uF8 uF14 uF13 uF15 uF16 uF17 uF18) else (xb2 (f_X8_must 58 uF8 uF13 uF14 uF15) fun uF13_20 uF15_21 => (xb3 (f_X8_number fu 9 uF8 uF13_20 uF14 uF15_21) fun v23 uF13_24 uF15_25 => (xk (xin (x1 + 2) 108) (j_X8_readsEntry_210 fu uF8 uF14 uF13_24 uF15_25 uF16 (upd uF17 (x1 + 2).toNatClampNeg v23) uF18)))))
def j_X8_readsEntry_159 (fu : Nat) (uF8 : xF32) (uF14 : Int32) (x1 : Int32) (x2 : Int32) (uF13 : Int32) (uF15 : Int32) (uF16 : xF32) (uF17 : xF32) (uF18 : Int32) : Option (Int32 × Int32 × xF32 × xF32 × Int32) :=
  xb2 (f_X8_must 62 uF8 uF13 uF14 uF15) fun uF13_7 uF15_8 => (xb3 (f_X8_number fu 1 uF8 uF13_7 uF14 uF15_8) fun v10 uF13_11 uF15_12 => (xk (xin (x1 + 1) 108) (j_X8_readsEntry_178 fu uF8 uF14 x1 x2 uF13_11 uF15_12 uF16 (upd uF17 (x1 + 1).toNatClampNeg v10) uF18)))
def j_X8_readsEntry_147 (fu : Nat) (uF8 : xF32) (uF14 : Int32) (x1 : Int32) (x2 : Int32) (uF13 : Int32) (uF15 : Int32) (uF16 : xF32) (uF17 : xF32) (uF18 : Int32) : Option (Int32 × Int32 × xF32 × xF32 × Int32) :=
  if x2 = 99 then (j_X8_readsEntry_159 fu uF8 uF14 x1 x2 uF13 uF15 uF16 uF17 uF18) else (if x2 = 115 then (j_X8_readsEntry_159 fu uF8 uF14 x1 x2 uF13 uF15 uF16 uF17 uF18) else (j_X8_readsEntry_178 fu uF8 uF14 x1 x2 uF13 uF15 uF16 uF17 uF18))
def f_X8_readsEntry (fu : Nat) (uF8 : xF32) (uF13 : Int32) (uF14 : Int32) (uF15 : Int32) (uF16 : xF32) (uF17 : xF32) (uF18 : Int32) : Option (Int32 × Int32 × xF32 × xF32 × Int32) :=
  xb1 (f_X8_here uF8 uF13 uF14) fun v1 => (xk (xin uF18 36) (if v1 = 99 then (if v1 = 103 then (j_X8_readsEntry_147 fu uF8 uF14 (3 * uF18) v1 (uF13 + 1) 1 (upd uF16 uF18.toNatClampNeg v1) uF17 uF18) else (if v1 = 99 then (xb3 (f_X8_number fu 1 uF8 (uF13 + 1) uF14 1) fun v30 uF13_31 uF15_32 => (xk (xin (3 * uF18) 108) (j_X8_readsEntry_147 fu uF8 uF14 (3 * uF18) v1 uF13_31 uF15_32 (upd uF16 uF18.toNatClampNeg v1) (upd uF17 (3 * uF18).toNatClampNeg v30) uF18))) else (if v1 = 112 then (xb3 (f_X8_number fu 1 uF8 (uF13 + 1) uF14 1) fun v36 uF13_37 uF15_38 => (xk (xin (3 * uF18) 108) (j_X8_readsEntry_147 fu uF8 uF14 (3 * uF18) v1 uF13_37 uF15_38 (upd uF16 uF18.toNatClampNeg v1) (upd uF17 (3 * uF18).toNatClampNeg v36) uF18))) else (if v1 = 115 then (xb3 (f_X8_number fu 1 uF8 (uF13 + 1) uF14 1) fun v47 uF13_48 uF15_49 => (xk (xin (3 * uF18) 108) (j_X8_readsEntry_147 fu uF8 uF14 (3 * uF18) v1 uF13_48 uF15_49 (upd uF16 uF18.toNatClampNeg v1) (upd uF17 (3 * uF18).toNatClampNeg v47) uF18))) else (xb3 (f_X8_number fu 3 uF8 (uF13 + 1) uF14 1) fun v42 uF13_43 uF15_44 => (xk (xin (3 * uF18) 108) (j_X8_readsEntry_147 fu uF8 uF14 (3 * uF18) v1 uF13_43 uF15_44 (upd uF16 uF18.toNatClampNeg v1) (upd uF17 (3 * uF18).toNatClampNeg v42) uF18))))))) else (if v1 = 97 then (if v1 = 103 then (j_X8_readsEntry_147 fu uF8 uF14 (3 * uF18) v1 (uF13 + 1) 1 (upd uF16 uF18.toNatClampNeg v1) uF17 uF18) else (if v1 = 99 then (xb3 (f_X8_number fu 1 uF8 (uF13 + 1) uF14 1) fun v55 uF13_56 uF15_57 => (xk (xin (3 * uF18) 108) (j_X8_readsEntry_147 fu uF8 uF14 (3 * uF18) v1 uF13_56 uF15_57 (upd uF16 uF18.toNatClampNeg v1) (upd uF17 (3 * uF18).toNatClampNeg v55) uF18))) else (if v1 = 112 then (xb3 (f_X8_number fu 1 uF8 (uF13 + 1) uF14 1) fun v61 uF13_62 uF15_63 => (xk (xin (3 * uF18) 108) (j_X8_readsEntry_147 fu uF8 uF14 (3 * uF18) v1 uF13_62 uF15_63 (upd uF16 uF18.toNatClampNeg v1) (upd uF17 (3 * uF18).toNatClampNeg v61) uF18))) else (if v1 = 115 then (xb3 (f_X8_number fu 1 uF8 (uF13 + 1) uF14 1) fun v72 uF13_73 uF15_74 => (xk (xin (3 * uF18) 108) (j_X8_readsEntry_147 fu uF8 uF14 (3 * uF18) v1 uF13_73 uF15_74 (upd uF16 uF18.toNatClampNeg v1) (upd uF17 (3 * uF18).toNatClampNeg v72) uF18))) else (xb3 (f_X8_number fu 3 uF8 (uF13 + 1) uF14 1) fun v67 uF13_68 uF15_69 => (xk (xin (3 * uF18) 108) (j_X8_readsEntry_147 fu uF8 uF14 (3 * uF18) v1 uF13_68 uF15_69 (upd uF16 uF18.toNatClampNeg v1) (upd uF17 (3 * uF18).toNatClampNeg v67) uF18))))))) else (if v1 = 100 then (if v1 = 103 then (j_X8_readsEntry_147 fu uF8 uF14 (3 * uF18) v1 (uF13 + 1) 1 (upd uF16 uF18.toNatClampNeg v1) uF17 uF18) else (if v1 = 99 then (xb3 (f_X8_number fu 1 uF8 (uF13 + 1) uF14 1) fun v80 uF13_81 uF15_82 => (xk (xin (3 * uF18) 108) (j_X8_readsEntry_147 fu uF8 uF14 (3 * uF18) v1 uF13_81 uF15_82 (upd uF16 uF18.toNatClampNeg v1) (upd uF17 (3 * uF18).toNatClampNeg v80) uF18))) else (if v1 = 112 then (xb3 (f_X8_number fu 1 uF8 (uF13 + 1) uF14 1) fun v86 uF13_87 uF15_88 => (xk (xin (3 * uF18) 108) (j_X8_readsEntry_147 fu uF8 uF14 (3 * uF18) v1 uF13_87 uF15_88 (upd uF16 uF18.toNatClampNeg v1) (upd uF17 (3 * uF18).toNatClampNeg v86) uF18))) else (if v1 = 115 then (xb3 (f_X8_number fu 1 uF8 (uF13 + 1) uF14 1) fun v97 uF13_98 uF15_99 => (xk (xin (3 * uF18) 108) (j_X8_readsEntry_147 fu uF8 uF14 (3 * uF18) v1 uF13_98 uF15_99 (upd uF16 uF18.toNatClampNeg v1) (upd uF17 (3 * uF18).toNatClampNeg v97) uF18))) else (xb3 (f_X8_number fu 3 uF8 (uF13 + 1) uF14 1) fun v92 uF13_93 uF15_94 => (xk (xin (3 * uF18) 108) (j_X8_readsEntry_147 fu uF8 uF14 (3 * uF18) v1 uF13_93 uF15_94 (upd uF16 uF18.toNatClampNeg v1) (upd uF17 (3 * uF18).toNatClampNeg v92) uF18))))))) else (if v1 = 119 then (if v1 = 103 then (j_X8_readsEntry_147 fu uF8 uF14 (3 * uF18) v1 (uF13 + 1) 1 (upd uF16 uF18.toNatClampNeg v1) uF17 uF18) else (if v1 = 99 then (xb3 (f_X8_number fu 1 uF8 (uF13 + 1) uF14 1) fun v105 uF13_106 uF15_107 => (xk (xin (3 * uF18) 108) (j_X8_readsEntry_147 fu uF8 uF14 (3 * uF18) v1 uF13_106 uF15_107 (upd uF16 uF18.toNatClampNeg v1) (upd uF17 (3 * uF18).toNatClampNeg v105) uF18))) else (if v1 = 112 then (xb3 (f_X8_number fu 1 uF8 (uF13 + 1) uF14 1) fun v111 uF13_112 uF15_113 => (xk (xin (3 * uF18) 108) (j_X8_readsEntry_147 fu uF8 uF14 (3 * uF18) v1 uF13_112 uF15_113 (upd uF16 uF18.toNatClampNeg v1) (upd uF17 (3 * uF18).toNatClampNeg v111) uF18))) else (if v1 = 115 then (xb3 (f_X8_number fu 1 uF8 (uF13 + 1) uF14 1) fun v122 uF13_123 uF15_124 => (xk (xin (3 * uF18) 108) (j_X8_readsEntry_147 fu uF8 uF14 (3 * uF18) v1 uF13_123 uF15_124 (upd uF16 uF18.toNatClampNeg v1) (upd uF17 (3 * uF18).toNatClampNeg v122) uF18))) else (xb3 (f_X8_number fu 3 uF8 (uF13 + 1) uF14 1) fun v117 uF13_118 uF15_119 => (xk (xin (3 * uF18) 108) (j_X8_readsEntry_147 fu uF8 uF14 (3 * uF18) v1 uF13_118 uF15_119 (upd uF16 uF18.toNatClampNeg v1) (upd uF17 (3 * uF18).toNatClampNeg v117) uF18))))))) else (if v1 = 112 then (if v1 = 103 then (j_X8_readsEntry_147 fu uF8 uF14 (3 * uF18) v1 (uF13 + 1) 1 (upd uF16 uF18.toNatClampNeg v1) uF17 uF18) else (if v1 = 99 then (xb3 (f_X8_number fu 1 uF8 (uF13 + 1) uF14 1) fun v130 uF13_131 uF15_132 => (xk (xin (3 * uF18) 108) (j_X8_readsEntry_147 fu uF8 uF14 (3 * uF18) v1 uF13_131 uF15_132 (upd uF16 uF18.toNatClampNeg v1) (upd uF17 (3 * uF18).toNatClampNeg v130) uF18))) else (if v1 = 112 then (xb3 (f_X8_number fu 1 uF8 (uF13 + 1) uF14 1) fun v136 uF13_137 uF15_138 => (xk (xin (3 * uF18) 108) (j_X8_readsEntry_147 fu uF8 uF14 (3 * uF18) v1 uF13_137 uF15_138 (upd uF16 uF18.toNatClampNeg v1) (upd uF17 (3 * uF18).toNatClampNeg v136) uF18))) else (if v1 = 115 then (xb3 (f_X8_number fu 1 uF8 (uF13 + 1) uF14 1) fun v147 uF13_148 uF15_149 => (xk (xin (3 * uF18) 108) (j_X8_readsEntry_147 fu uF8 uF14 (3 * uF18) v1 uF13_148 uF15_149 (upd uF16 uF18.toNatClampNeg v1) (upd uF17 (3 * uF18).toNatClampNeg v147) uF18))) else (xb3 (f_X8_number fu 3 uF8 (uF13 + 1) uF14 1) fun v142 uF13_143 uF15_144 => (xk (xin (3 * uF18) 108) (j_X8_readsEntry_147 fu uF8 uF14 (3 * uF18) v1 uF13_143 uF15_144 (upd uF16 uF18.toNatClampNeg v1) (upd uF17 (3 * uF18).toNatClampNeg v142) uF18))))))) else (if v1 = 115 then (if v1 = 103 then (j_X8_readsEntry_147 fu uF8 uF14 (3 * uF18) v1 (uF13 + 1) 1 (upd uF16 uF18.toNatClampNeg v1) uF17 uF18) else (if v1 = 99 then (xb3 (f_X8_number fu 1 uF8 (uF13 + 1) uF14 1) fun v155 uF13_156 uF15_157 => (xk (xin (3 * uF18) 108) (j_X8_readsEntry_147 fu uF8 uF14 (3 * uF18) v1 uF13_156 uF15_157 (upd uF16 uF18.toNatClampNeg v1) (upd uF17 (3 * uF18).toNatClampNeg v155) uF18))) else (if v1 = 112 then (xb3 (f_X8_number fu 1 uF8 (uF13 + 1) uF14 1) fun v161 uF13_162 uF15_163 => (xk (xin (3 * uF18) 108) (j_X8_readsEntry_147 fu uF8 uF14 (3 * uF18) v1 uF13_162 uF15_163 (upd uF16 uF18.toNatClampNeg v1) (upd uF17 (3 * uF18).toNatClampNeg v161) uF18))) else (if v1 = 115 then (xb3 (f_X8_number fu 1 uF8 (uF13 + 1) uF14 1) fun v172 uF13_173 uF15_174 => (xk (xin (3 * uF18) 108) (j_X8_readsEntry_147 fu uF8 uF14 (3 * uF18) v1 uF13_173 uF15_174 (upd uF16 uF18.toNatClampNeg v1) (upd uF17 (3 * uF18).toNatClampNeg v172) uF18))) else (xb3 (f_X8_number fu 3 uF8 (uF13 + 1) uF14 1) fun v167 uF13_168 uF15_169 => (xk (xin (3 * uF18) 108) (j_X8_readsEntry_147 fu uF8 uF14 (3 * uF18) v1 uF13_168 uF15_169 (upd uF16 uF18.toNatClampNeg v1) (upd uF17 (3 * uF18).toNatClampNeg v167) uF18))))))) else (if v1 = 110 then (if v1 = 103 then (j_X8_readsEntry_147 fu uF8 uF14 (3 * uF18) v1 (uF13 + 1) 1 (upd uF16 uF18.toNatClampNeg v1) uF17 uF18) else (if v1 = 99 then (xb3 (f_X8_number fu 1 uF8 (uF13 + 1) uF14 1) fun v180 uF13_181 uF15_182 => (xk (xin (3 * uF18) 108) (j_X8_readsEntry_147 fu uF8 uF14 (3 * uF18) v1 uF13_181 uF15_182 (upd uF16 uF18.toNatClampNeg v1) (upd uF17 (3 * uF18).toNatClampNeg v180) uF18))) else (if v1 = 112 then (xb3 (f_X8_number fu 1 uF8 (uF13 + 1) uF14 1) fun v186 uF13_187 uF15_188 => (xk (xin (3 * uF18) 108) (j_X8_readsEntry_147 fu uF8 uF14 (3 * uF18) v1 uF13_187 uF15_188 (upd uF16 uF18.toNatClampNeg v1) (upd uF17 (3 * uF18).toNatClampNeg v186) uF18))) else (if v1 = 115 then (xb3 (f_X8_number fu 1 uF8 (uF13 + 1) uF14 1) fun v197 uF13_198 uF15_199 => (xk (xin (3 * uF18) 108) (j_X8_readsEntry_147 fu uF8 uF14 (3 * uF18) v1 uF13_198 uF15_199 (upd uF16 uF18.toNatClampNeg v1) (upd uF17 (3 * uF18).toNatClampNeg v197) uF18))) else (xb3 (f_X8_number fu 3 uF8 (uF13 + 1) uF14 1) fun v192 uF13_193 uF15_194 => (xk (xin (3 * uF18) 108) (j_X8_readsEntry_147 fu uF8 uF14 (3 * uF18) v1 uF13_193 uF15_194 (upd uF16 uF18.toNatClampNeg v1) (upd uF17 (3 * uF18).toNatClampNeg v192) uF18))))))) else (if v1 = 103 then (if v1 = 103 then (j_X8_readsEntry_147 fu uF8 uF14 (3 * uF18) v1 (uF13 + 1) 1 (upd uF16 uF18.toNatClampNeg v1) uF17 uF18) else (if v1 = 99 then (xb3 (f_X8_number fu 1 uF8 (uF13 + 1) uF14 1) fun v205 uF13_206 uF15_207 => (xk (xin (3 * uF18) 108) (j_X8_readsEntry_147 fu uF8 uF14 (3 * uF18) v1 uF13_206 uF15_207 (upd uF16 uF18.toNatClampNeg v1) (upd uF17 (3 * uF18).toNatClampNeg v205) uF18))) else (if v1 = 112 then (xb3 (f_X8_number fu 1 uF8 (uF13 + 1) uF14 1) fun v211 uF13_212 uF15_213 => (xk (xin (3 * uF18) 108) (j_X8_readsEntry_147 fu uF8 uF14 (3 * uF18) v1 uF13_212 uF15_213 (upd uF16 uF18.toNatClampNeg v1) (upd uF17 (3 * uF18).toNatClampNeg v211) uF18))) else (if v1 = 115 then (xb3 (f_X8_number fu 1 uF8 (uF13 + 1) uF14 1) fun v222 uF13_223 uF15_224 => (xk (xin (3 * uF18) 108) (j_X8_readsEntry_147 fu uF8 uF14 (3 * uF18) v1 uF13_223 uF15_224 (upd uF16 uF18.toNatClampNeg v1) (upd uF17 (3 * uF18).toNatClampNeg v222) uF18))) else (xb3 (f_X8_number fu 3 uF8 (uF13 + 1) uF14 1) fun v217 uF13_218 uF15_219 => (xk (xin (3 * uF18) 108) (j_X8_readsEntry_147 fu uF8 uF14 (3 * uF18) v1 uF13_218 uF15_219 (upd uF16 uF18.toNatClampNeg v1) (upd uF17 (3 * uF18).toNatClampNeg v217) uF18))))))) else (some ((uF13 + 0), 0, (upd uF16 uF18.toNatClampNeg v1), uF17, uF18)))))))))))
set_option maxHeartbeats 4000000 in
set_option maxRecDepth 100000 in
theorem jl_X8_readsEntry_210 {l : Launch} {κ : xKt} {wA : Nat → sAcc} {wT : sTxt} {wG : sRng} {wM : sMai} {wO : sOut} {fu : Nat} {uF0 : Int32} {uF1 : xF64} {uF2 : xF64} {uF3 : xF64} {uF4 : xF64} {uF5 : Int32} {uF6 : Int32} {uF7 : Int32} {uF8 : xF32} {uF9 : Int32} {uF10 : Int32} {uF11 : Int64} {uF12 : xF32} {uF14 : Int32} {yF13 : Int32} {yF15 : Int32} {yF16 : xF32} {yF17 : xF32} {yF18 : Int32} {A : Nat → Prop} {p : Program} {e : Env} {s : State} {m : MethodId} {args : Array Value} {below : List Frame} {meth : Method} {c : Code} {Q : State → Prop}
    (hc : xC κ A p s m args meth c cX8_readsEntry RX8 3 none)
    (K : ∀ (pc : Nat) (ls : Array Slot) (H : Heap) (locs : List Loc), decode cX8_readsEntry pc = .ok (.return_, 1) → xW κ A s (wA, wT, wG, wM, (uF0, uF1, uF2, uF3, uF4, uF5, uF6, uF7, uF8, uF9, uF10, uF11, uF12, yF13, uF14, yF15, yF16, yF17, yF18), wO) H locs → W p l e (xR 2 0 0) s m args below meth c H locs 0 0 Q (F0 m pc ls [])) :
    ∀ (uF13 : Int32) (uF15 : Int32) (uF16 : xF32) (uF17 : xF32) (uF18 : Int32) (H : Heap) (locs : List Loc) (ls : Array Slot), j_X8_readsEntry_210 fu uF8 uF14 uF13 uF15 uF16 uF17 uF18 = some (yF13, yF15, yF16, yF17, yF18) → xW κ A s (wA, wT, wG, wM, (uF0, uF1, uF2, uF3, uF4, uF5, uF6, uF7, uF8, uF9, uF10, uF11, uF12, uF13, uF14, uF15, uF16, uF17, uF18), wO) H locs → lv_has ls 3 [(0, .ref (xAd κ 245))] → W p l e (xR 2 0 0) s m args below meth c H locs 0 0 Q (F0 m 210 ls []) := by
  have hx := hc.1.1
  have hb := hc.1.2.1
  intro uF13 uF15 uF16 uF17 uF18 H locs ls hf hw hl
  unfold j_X8_readsEntry_210 at hf
  refine lv_aload_n hx hb dX8_readsEntry_210 rfl (lv_at hl 0 rfl) ?_
  refine lv_bipush (v := 59) hx hb dX8_readsEntry_211 (by decide) ?_
  obtain ⟨uF13_16, uF15_17, h18, hf⟩ := xb2_of hf
  refine x_callvV (As := [.int 59]) (rest := []) (σ' := (wA, wT, wG, wM, (uF0, uF1, uF2, uF3, uF4, uF5, uF6, uF7, uF8, uF9, uF10, uF11, uF12, uF13_16, uF14, uF15_17, uF16, uF17, uF18), wO)) hc hw hl.1 (m_X8_must h18) kX8_284 co_245 rfl rfl ⟨rfl, rfl⟩ ⟨Nat.le_of_ble_eq_true rfl, Nat.le_of_ble_eq_true rfl⟩ ⟨Nat.zero_le _, Nat.zero_le _⟩ (Nat.le_of_ble_eq_true rfl) dX8_readsEntry_213 (fun H locs hw => ?_)
  refine lv_aload_n hx hb dX8_readsEntry_216 rfl (lv_at hl 0 rfl) ?_
  refine lv_dup hx hb dX8_readsEntry_217 rfl ?_
  refine x_get (v := .int uF18) hc hw co_245 fX8_278 rfl dX8_readsEntry_218 ?_
  refine lv_iconst (v := 1) hx hb dX8_readsEntry_221 (by decide) ?_
  refine lv_iadd hx hb dX8_readsEntry_222 ?_
  refine x_put (σ' := (wA, wT, wG, wM, (uF0, uF1, uF2, uF3, uF4, uF5, uF6, uF7, uF8, uF9, uF10, uF11, uF12, uF13_16, uF14, uF15_17, uF16, uF17, (uF18 + 1)), wO)) hc hw co_245 fX8_278 rfl rfl (Nat.le_of_ble_eq_true rfl) so_F_18 dX8_readsEntry_223 (fun H locs hw => ?_)
  cases hf
  exact K _ _ _ _ dX8_readsEntry_226 hw
set_option maxHeartbeats 4000000 in
set_option maxRecDepth 100000 in
theorem jl_X8_readsEntry_178 {l : Launch} {κ : xKt} {wA : Nat → sAcc} {wT : sTxt} {wG : sRng} {wM : sMai} {wO : sOut} {fu : Nat} {uF0 : Int32} {uF1 : xF64} {uF2 : xF64} {uF3 : xF64} {uF4 : xF64} {uF5 : Int32} {uF6 : Int32} {uF7 : Int32} {uF8 : xF32} {uF9 : Int32} {uF10 : Int32} {uF11 : Int64} {uF12 : xF32} {uF14 : Int32} {yF13 : Int32} {yF15 : Int32} {yF16 : xF32} {yF17 : xF32} {yF18 : Int32} {A : Nat → Prop} {p : Program} {e : Env} {s : State} {m : MethodId} {args : Array Value} {below : List Frame} {meth : Method} {c : Code} {Q : State → Prop}
    (hc : xC κ A p s m args meth c cX8_readsEntry RX8 3 none)
    (K : ∀ (pc : Nat) (ls : Array Slot) (H : Heap) (locs : List Loc), decode cX8_readsEntry pc = .ok (.return_, 1) → xW κ A s (wA, wT, wG, wM, (uF0, uF1, uF2, uF3, uF4, uF5, uF6, uF7, uF8, uF9, uF10, uF11, uF12, yF13, uF14, yF15, yF16, yF17, yF18), wO) H locs → W p l e (xR 2 0 0) s m args below meth c H locs 0 0 Q (F0 m pc ls [])) :
    ∀ (x1 : Int32) (x2 : Int32) (uF13 : Int32) (uF15 : Int32) (uF16 : xF32) (uF17 : xF32) (uF18 : Int32) (H : Heap) (locs : List Loc) (ls : Array Slot), j_X8_readsEntry_178 fu uF8 uF14 x1 x2 uF13 uF15 uF16 uF17 uF18 = some (yF13, yF15, yF16, yF17, yF18) → xW κ A s (wA, wT, wG, wM, (uF0, uF1, uF2, uF3, uF4, uF5, uF6, uF7, uF8, uF9, uF10, uF11, uF12, uF13, uF14, uF15, uF16, uF17, uF18), wO) H locs → lv_has ls 3 [(0, .ref (xAd κ 245)), (1, .int x1), (2, .int x2)] → W p l e (xR 2 0 0) s m args below meth c H locs 0 0 Q (F0 m 178 ls []) := by
  have hx := hc.1.1
  have hb := hc.1.2.1
  intro x1 x2 uF13 uF15 uF16 uF17 uF18 H locs ls hf hw hl
  unfold j_X8_readsEntry_178 at hf
  refine lv_iload_n hx hb dX8_readsEntry_178 rfl (lv_at hl 2 rfl) ?_
  refine lv_bipush (v := 103) hx hb dX8_readsEntry_179 (by decide) ?_
  refine lv_icmp_eq (tgt := 210) hx hb dX8_readsEntry_181 (by decide) (fun c15 => ?_) (fun c15 => ?_)
  · have hf := xif_t c15 hf
    exact jl_X8_readsEntry_210 hc K _ _ _ _ _ _ _ _ hf hw (lv_sub hl [0] rfl)
  · have hf := xif_f c15 hf
    refine lv_iload_n hx hb dX8_readsEntry_184 rfl (lv_at hl 2 rfl) ?_
    refine lv_bipush (v := 110) hx hb dX8_readsEntry_185 (by decide) ?_
    refine lv_icmp_eq (tgt := 210) hx hb dX8_readsEntry_187 (by decide) (fun c19 => ?_) (fun c19 => ?_)
    · have hf := xif_t c19 hf
      exact jl_X8_readsEntry_210 hc K _ _ _ _ _ _ _ _ hf hw (lv_sub hl [0] rfl)
    · have hf := xif_f c19 hf
      refine lv_aload_n hx hb dX8_readsEntry_190 rfl (lv_at hl 0 rfl) ?_
      refine lv_bipush (v := 58) hx hb dX8_readsEntry_191 (by decide) ?_
      obtain ⟨uF13_20, uF15_21, h22, hf⟩ := xb2_of hf
      refine x_callvV (As := [.int 58]) (rest := []) (σ' := (wA, wT, wG, wM, (uF0, uF1, uF2, uF3, uF4, uF5, uF6, uF7, uF8, uF9, uF10, uF11, uF12, uF13_20, uF14, uF15_21, uF16, uF17, uF18), wO)) hc hw hl.1 (m_X8_must h22) kX8_284 co_245 rfl rfl ⟨rfl, rfl⟩ ⟨Nat.le_of_ble_eq_true rfl, Nat.le_of_ble_eq_true rfl⟩ ⟨Nat.zero_le _, Nat.zero_le _⟩ (Nat.le_of_ble_eq_true rfl) dX8_readsEntry_193 (fun H locs hw => ?_)
      refine lv_aload_n hx hb dX8_readsEntry_196 rfl (lv_at hl 0 rfl) ?_
      refine x_get (v := .ref (xAd κ 253)) hc hw co_245 fX8_36 rfl dX8_readsEntry_197 ?_
      refine lv_iload_n hx hb dX8_readsEntry_200 rfl (lv_at hl 1 rfl) ?_
      refine lv_iconst (v := 2) hx hb dX8_readsEntry_201 (by decide) ?_
      refine lv_iadd hx hb dX8_readsEntry_202 ?_
      refine lv_aload_n hx hb dX8_readsEntry_203 rfl (lv_at hl 0 rfl) ?_
      refine lv_bipush (v := 9) hx hb dX8_readsEntry_204 (by decide) ?_
      obtain ⟨v23, uF13_24, uF15_25, h26, hf⟩ := xb3_of hf
      refine x_calliV (As := [.int 9]) (rest := [.int (x1 + 2), .ref (xAd κ 253)]) (σ' := (wA, wT, wG, wM, (uF0, uF1, uF2, uF3, uF4, uF5, uF6, uF7, uF8, uF9, uF10, uF11, uF12, uF13_24, uF14, uF15_25, uF16, uF17, uF18), wO)) hc hw hl.1 (m_X8_number h26) kX8_281 co_245 rfl rfl ⟨rfl, rfl⟩ ⟨Nat.le_of_ble_eq_true rfl, Nat.le_of_ble_eq_true rfl⟩ ⟨Nat.zero_le _, Nat.zero_le _⟩ (Nat.le_of_ble_eq_true rfl) dX8_readsEntry_206 (fun H locs hw => ?_)
      obtain ⟨k27, hf⟩ := xk_of hf
      refine x_iast (n := 108) (f := uF17) (σ' := (wA, wT, wG, wM, (uF0, uF1, uF2, uF3, uF4, uF5, uF6, uF7, uF8, uF9, uF10, uF11, uF12, uF13_24, uF14, uF15_25, uF16, (upd uF17 (x1 + 2).toNatClampNeg v23), uF18), wO)) hc hw co_253 k27 so_F_17 dX8_readsEntry_209 (fun H locs hw => ?_)
      exact jl_X8_readsEntry_210 hc K _ _ _ _ _ _ _ _ hf hw (lv_sub hl [0] rfl)
set_option maxHeartbeats 4000000 in
set_option maxRecDepth 100000 in
theorem jl_X8_readsEntry_159 {l : Launch} {κ : xKt} {wA : Nat → sAcc} {wT : sTxt} {wG : sRng} {wM : sMai} {wO : sOut} {fu : Nat} {uF0 : Int32} {uF1 : xF64} {uF2 : xF64} {uF3 : xF64} {uF4 : xF64} {uF5 : Int32} {uF6 : Int32} {uF7 : Int32} {uF8 : xF32} {uF9 : Int32} {uF10 : Int32} {uF11 : Int64} {uF12 : xF32} {uF14 : Int32} {yF13 : Int32} {yF15 : Int32} {yF16 : xF32} {yF17 : xF32} {yF18 : Int32} {A : Nat → Prop} {p : Program} {e : Env} {s : State} {m : MethodId} {args : Array Value} {below : List Frame} {meth : Method} {c : Code} {Q : State → Prop}
    (hc : xC κ A p s m args meth c cX8_readsEntry RX8 3 none)
    (K : ∀ (pc : Nat) (ls : Array Slot) (H : Heap) (locs : List Loc), decode cX8_readsEntry pc = .ok (.return_, 1) → xW κ A s (wA, wT, wG, wM, (uF0, uF1, uF2, uF3, uF4, uF5, uF6, uF7, uF8, uF9, uF10, uF11, uF12, yF13, uF14, yF15, yF16, yF17, yF18), wO) H locs → W p l e (xR 2 0 0) s m args below meth c H locs 0 0 Q (F0 m pc ls [])) :
    ∀ (x1 : Int32) (x2 : Int32) (uF13 : Int32) (uF15 : Int32) (uF16 : xF32) (uF17 : xF32) (uF18 : Int32) (H : Heap) (locs : List Loc) (ls : Array Slot), j_X8_readsEntry_159 fu uF8 uF14 x1 x2 uF13 uF15 uF16 uF17 uF18 = some (yF13, yF15, yF16, yF17, yF18) → xW κ A s (wA, wT, wG, wM, (uF0, uF1, uF2, uF3, uF4, uF5, uF6, uF7, uF8, uF9, uF10, uF11, uF12, uF13, uF14, uF15, uF16, uF17, uF18), wO) H locs → lv_has ls 3 [(0, .ref (xAd κ 245)), (1, .int x1), (2, .int x2)] → W p l e (xR 2 0 0) s m args below meth c H locs 0 0 Q (F0 m 159 ls []) := by
  have hx := hc.1.1
  have hb := hc.1.2.1
  intro x1 x2 uF13 uF15 uF16 uF17 uF18 H locs ls hf hw hl
  unfold j_X8_readsEntry_159 at hf
  refine lv_aload_n hx hb dX8_readsEntry_159 rfl (lv_at hl 0 rfl) ?_
  refine lv_bipush (v := 62) hx hb dX8_readsEntry_160 (by decide) ?_
  obtain ⟨uF13_7, uF15_8, h9, hf⟩ := xb2_of hf
  refine x_callvV (As := [.int 62]) (rest := []) (σ' := (wA, wT, wG, wM, (uF0, uF1, uF2, uF3, uF4, uF5, uF6, uF7, uF8, uF9, uF10, uF11, uF12, uF13_7, uF14, uF15_8, uF16, uF17, uF18), wO)) hc hw hl.1 (m_X8_must h9) kX8_284 co_245 rfl rfl ⟨rfl, rfl⟩ ⟨Nat.le_of_ble_eq_true rfl, Nat.le_of_ble_eq_true rfl⟩ ⟨Nat.zero_le _, Nat.zero_le _⟩ (Nat.le_of_ble_eq_true rfl) dX8_readsEntry_162 (fun H locs hw => ?_)
  refine lv_aload_n hx hb dX8_readsEntry_165 rfl (lv_at hl 0 rfl) ?_
  refine x_get (v := .ref (xAd κ 253)) hc hw co_245 fX8_36 rfl dX8_readsEntry_166 ?_
  refine lv_iload_n hx hb dX8_readsEntry_169 rfl (lv_at hl 1 rfl) ?_
  refine lv_iconst (v := 1) hx hb dX8_readsEntry_170 (by decide) ?_
  refine lv_iadd hx hb dX8_readsEntry_171 ?_
  refine lv_aload_n hx hb dX8_readsEntry_172 rfl (lv_at hl 0 rfl) ?_
  refine lv_iconst (v := 1) hx hb dX8_readsEntry_173 (by decide) ?_
  obtain ⟨v10, uF13_11, uF15_12, h13, hf⟩ := xb3_of hf
  refine x_calliV (As := [.int 1]) (rest := [.int (x1 + 1), .ref (xAd κ 253)]) (σ' := (wA, wT, wG, wM, (uF0, uF1, uF2, uF3, uF4, uF5, uF6, uF7, uF8, uF9, uF10, uF11, uF12, uF13_11, uF14, uF15_12, uF16, uF17, uF18), wO)) hc hw hl.1 (m_X8_number h13) kX8_281 co_245 rfl rfl ⟨rfl, rfl⟩ ⟨Nat.le_of_ble_eq_true rfl, Nat.le_of_ble_eq_true rfl⟩ ⟨Nat.zero_le _, Nat.zero_le _⟩ (Nat.le_of_ble_eq_true rfl) dX8_readsEntry_174 (fun H locs hw => ?_)
  obtain ⟨k14, hf⟩ := xk_of hf
  refine x_iast (n := 108) (f := uF17) (σ' := (wA, wT, wG, wM, (uF0, uF1, uF2, uF3, uF4, uF5, uF6, uF7, uF8, uF9, uF10, uF11, uF12, uF13_11, uF14, uF15_12, uF16, (upd uF17 (x1 + 1).toNatClampNeg v10), uF18), wO)) hc hw co_253 k14 so_F_17 dX8_readsEntry_177 (fun H locs hw => ?_)
  exact jl_X8_readsEntry_178 hc K _ _ _ _ _ _ _ _ _ _ hf hw (lv_sub hl [0, 1, 2] rfl)
set_option maxHeartbeats 4000000 in
set_option maxRecDepth 100000 in
theorem jl_X8_readsEntry_147 {l : Launch} {κ : xKt} {wA : Nat → sAcc} {wT : sTxt} {wG : sRng} {wM : sMai} {wO : sOut} {fu : Nat} {uF0 : Int32} {uF1 : xF64} {uF2 : xF64} {uF3 : xF64} {uF4 : xF64} {uF5 : Int32} {uF6 : Int32} {uF7 : Int32} {uF8 : xF32} {uF9 : Int32} {uF10 : Int32} {uF11 : Int64} {uF12 : xF32} {uF14 : Int32} {yF13 : Int32} {yF15 : Int32} {yF16 : xF32} {yF17 : xF32} {yF18 : Int32} {A : Nat → Prop} {p : Program} {e : Env} {s : State} {m : MethodId} {args : Array Value} {below : List Frame} {meth : Method} {c : Code} {Q : State → Prop}
    (hc : xC κ A p s m args meth c cX8_readsEntry RX8 3 none)
    (K : ∀ (pc : Nat) (ls : Array Slot) (H : Heap) (locs : List Loc), decode cX8_readsEntry pc = .ok (.return_, 1) → xW κ A s (wA, wT, wG, wM, (uF0, uF1, uF2, uF3, uF4, uF5, uF6, uF7, uF8, uF9, uF10, uF11, uF12, yF13, uF14, yF15, yF16, yF17, yF18), wO) H locs → W p l e (xR 2 0 0) s m args below meth c H locs 0 0 Q (F0 m pc ls [])) :
    ∀ (x1 : Int32) (x2 : Int32) (uF13 : Int32) (uF15 : Int32) (uF16 : xF32) (uF17 : xF32) (uF18 : Int32) (H : Heap) (locs : List Loc) (ls : Array Slot), j_X8_readsEntry_147 fu uF8 uF14 x1 x2 uF13 uF15 uF16 uF17 uF18 = some (yF13, yF15, yF16, yF17, yF18) → xW κ A s (wA, wT, wG, wM, (uF0, uF1, uF2, uF3, uF4, uF5, uF6, uF7, uF8, uF9, uF10, uF11, uF12, uF13, uF14, uF15, uF16, uF17, uF18), wO) H locs → lv_has ls 3 [(0, .ref (xAd κ 245)), (1, .int x1), (2, .int x2)] → W p l e (xR 2 0 0) s m args below meth c H locs 0 0 Q (F0 m 147 ls []) := by
  have hx := hc.1.1
  have hb := hc.1.2.1
  intro x1 x2 uF13 uF15 uF16 uF17 uF18 H locs ls hf hw hl
  unfold j_X8_readsEntry_147 at hf
  refine lv_iload_n hx hb dX8_readsEntry_147 rfl (lv_at hl 2 rfl) ?_
  refine lv_bipush (v := 99) hx hb dX8_readsEntry_148 (by decide) ?_
  refine lv_icmp_eq (tgt := 159) hx hb dX8_readsEntry_150 (by decide) (fun c6 => ?_) (fun c6 => ?_)
  · have hf := xif_t c6 hf
    exact jl_X8_readsEntry_159 hc K _ _ _ _ _ _ _ _ _ _ hf hw (lv_sub hl [0, 1, 2] rfl)
  · have hf := xif_f c6 hf
    refine lv_iload_n hx hb dX8_readsEntry_153 rfl (lv_at hl 2 rfl) ?_
    refine lv_bipush (v := 115) hx hb dX8_readsEntry_154 (by decide) ?_
    refine lv_icmp_ne (tgt := 178) hx hb dX8_readsEntry_156 (by decide) (fun c28 => ?_) (fun c28 => ?_)
    · have hf := xif_f c28 hf
      exact jl_X8_readsEntry_178 hc K _ _ _ _ _ _ _ _ _ _ hf hw (lv_sub hl [0, 1, 2] rfl)
    · have hf := xif_t c28 hf
      exact jl_X8_readsEntry_159 hc K _ _ _ _ _ _ _ _ _ _ hf hw (lv_sub hl [0, 1, 2] rfl)
set_option maxHeartbeats 4000000 in
set_option maxRecDepth 100000 in
theorem m_X8_readsEntry {l : Launch} {κ : xKt} {wA : Nat → sAcc} {wT : sTxt} {wG : sRng} {wM : sMai} {wO : sOut} {fu : Nat} {uF0 : Int32} {uF1 : xF64} {uF2 : xF64} {uF3 : xF64} {uF4 : xF64} {uF5 : Int32} {uF6 : Int32} {uF7 : Int32} {uF8 : xF32} {uF9 : Int32} {uF10 : Int32} {uF11 : Int64} {uF12 : xF32} {uF13 : Int32} {uF14 : Int32} {uF15 : Int32} {uF16 : xF32} {uF17 : xF32} {uF18 : Int32} {yF13 : Int32} {yF15 : Int32} {yF16 : xF32} {yF17 : xF32} {yF18 : Int32} (hf : f_X8_readsEntry fu uF8 uF13 uF14 uF15 uF16 uF17 uF18 = some (yF13, yF15, yF16, yF17, yF18)) : xMv l κ yX8_readsEntry cX8_readsEntry 3 none (xR 2 0 0) [.ref (xAd κ 245)] (wA, wT, wG, wM, (uF0, uF1, uF2, uF3, uF4, uF5, uF6, uF7, uF8, uF9, uF10, uF11, uF12, uF13, uF14, uF15, uF16, uF17, uF18), wO) (wA, wT, wG, wM, (uF0, uF1, uF2, uF3, uF4, uF5, uF6, uF7, uF8, uF9, uF10, uF11, uF12, yF13, uF14, yF15, yF16, yF17, yF18), wO) := by
  unfold f_X8_readsEntry at hf
  refine xMv_of pn_X8 (Nat.le_of_ble_eq_true rfl) ⟨rfl, rfl⟩ ?_
  intro A p e s m args below meth c ls Q hc hw hl K
  have hc : xC κ A p s m args meth c cX8_readsEntry RX8 3 none := hc
  have hx := hc.1.1
  have hb := hc.1.2.1
  have hl : lv_has ls 3 [(0, .ref (xAd κ 245))] := hl
  refine lv_iconst (v := 3) hx hb dX8_readsEntry_0 (by decide) ?_
  refine lv_aload_n hx hb dX8_readsEntry_1 rfl (lv_at hl 0 rfl) ?_
  refine x_get (v := .int uF18) hc hw co_245 fX8_278 rfl dX8_readsEntry_2 ?_
  refine lv_imul hx hb dX8_readsEntry_5 ?_
  refine lv_istore_n (lv' := [(1, .int (3 * uF18)), (0, .ref (xAd κ 245))]) hx hb dX8_readsEntry_6 rfl hl (by decide) rfl (fun ls hl => ?_)
  refine lv_aload_n hx hb dX8_readsEntry_7 rfl (lv_at hl 1 rfl) ?_
  obtain ⟨v1, h2, hf⟩ := xb1_of hf
  refine x_calliV (As := []) (rest := []) (σ' := (wA, wT, wG, wM, (uF0, uF1, uF2, uF3, uF4, uF5, uF6, uF7, uF8, uF9, uF10, uF11, uF12, uF13, uF14, uF15, uF16, uF17, uF18), wO)) hc hw hl.1 (m_X8_here h2) kX8_275 co_245 rfl rfl ⟨rfl, rfl⟩ ⟨Nat.le_of_ble_eq_true rfl, Nat.le_of_ble_eq_true rfl⟩ ⟨Nat.zero_le _, Nat.zero_le _⟩ (Nat.le_of_ble_eq_true rfl) dX8_readsEntry_8 (fun H locs hw => ?_)
  refine lv_istore_n (lv' := [(2, .int v1), (1, .int (3 * uF18)), (0, .ref (xAd κ 245))]) hx hb dX8_readsEntry_11 rfl hl (by decide) rfl (fun ls hl => ?_)
  refine lv_aload_n hx hb dX8_readsEntry_12 rfl (lv_at hl 2 rfl) ?_
  refine x_get (v := .ref (xAd κ 252)) hc hw co_245 fX8_33 rfl dX8_readsEntry_13 ?_
  refine lv_aload_n hx hb dX8_readsEntry_16 rfl (lv_at hl 2 rfl) ?_
  refine x_get (v := .int uF18) hc hw co_245 fX8_278 rfl dX8_readsEntry_17 ?_
  refine lv_iload_n hx hb dX8_readsEntry_20 rfl (lv_at hl 0 rfl) ?_
  obtain ⟨k3, hf⟩ := xk_of hf
  refine x_iast (n := 36) (f := uF16) (σ' := (wA, wT, wG, wM, (uF0, uF1, uF2, uF3, uF4, uF5, uF6, uF7, uF8, uF9, uF10, uF11, uF12, uF13, uF14, uF15, (upd uF16 uF18.toNatClampNeg v1), uF17, uF18), wO)) hc hw co_252 k3 so_F_16 dX8_readsEntry_21 (fun H locs hw => ?_)
  refine lv_aload_n hx hb dX8_readsEntry_22 rfl (lv_at hl 2 rfl) ?_
  refine lv_iload_n hx hb dX8_readsEntry_23 rfl (lv_at hl 0 rfl) ?_
  refine lv_bipush (v := 99) hx hb dX8_readsEntry_24 (by decide) ?_
  refine lv_icmp_eq (tgt := 71) hx hb dX8_readsEntry_26 (by decide) (fun c4 => ?_) (fun c4 => ?_)
  · have hf := xif_t c4 hf
    refine lv_iconst (v := 1) hx hb dX8_readsEntry_71 (by decide) ?_
    refine lv_goto (tgt := 76) hx hb dX8_readsEntry_72 (by decide) ?_
    refine x_put (σ' := (wA, wT, wG, wM, (uF0, uF1, uF2, uF3, uF4, uF5, uF6, uF7, uF8, uF9, uF10, uF11, uF12, uF13, uF14, 1, (upd uF16 uF18.toNatClampNeg v1), uF17, uF18), wO)) hc hw co_245 fX8_271 rfl rfl (Nat.le_of_ble_eq_true rfl) so_F_15 dX8_readsEntry_76 (fun H locs hw => ?_)
    refine lv_aload_n hx hb dX8_readsEntry_79 rfl (lv_at hl 2 rfl) ?_
    refine lv_dup hx hb dX8_readsEntry_80 rfl ?_
    refine x_get (v := .int uF13) hc hw co_245 fX8_265 rfl dX8_readsEntry_81 ?_
    refine lv_aload_n hx hb dX8_readsEntry_84 rfl (lv_at hl 2 rfl) ?_
    refine x_get (v := .int 1) hc hw co_245 fX8_271 rfl dX8_readsEntry_85 ?_
    refine lv_if_eq (tgt := 95) hx hb dX8_readsEntry_88 (by decide) (fun q => absurd q (by decide)) (fun _ => ?_)
    refine lv_iconst (v := 1) hx hb dX8_readsEntry_91 (by decide) ?_
    refine lv_goto (tgt := 96) hx hb dX8_readsEntry_92 (by decide) ?_
    refine lv_iadd hx hb dX8_readsEntry_96 ?_
    refine x_put (σ' := (wA, wT, wG, wM, (uF0, uF1, uF2, uF3, uF4, uF5, uF6, uF7, uF8, uF9, uF10, uF11, uF12, (uF13 + 1), uF14, 1, (upd uF16 uF18.toNatClampNeg v1), uF17, uF18), wO)) hc hw co_245 fX8_265 rfl rfl (Nat.le_of_ble_eq_true rfl) so_F_13 dX8_readsEntry_97 (fun H locs hw => ?_)
    refine lv_aload_n hx hb dX8_readsEntry_100 rfl (lv_at hl 2 rfl) ?_
    refine x_get (v := .int 1) hc hw co_245 fX8_271 rfl dX8_readsEntry_101 ?_
    refine lv_if_ne (tgt := 108) hx hb dX8_readsEntry_104 (by decide) (fun _ => ?_) (fun q => absurd q (by decide))
    refine lv_iload_n hx hb dX8_readsEntry_108 rfl (lv_at hl 0 rfl) ?_
    refine lv_bipush (v := 103) hx hb dX8_readsEntry_109 (by decide) ?_
    refine lv_icmp_eq (tgt := 147) hx hb dX8_readsEntry_111 (by decide) (fun c5 => ?_) (fun c5 => ?_)
    · have hf := xif_t c5 hf
      exact jl_X8_readsEntry_147 hc K _ _ _ _ _ _ _ _ _ _ hf hw (lv_sub hl [2, 1, 0] rfl)
    · have hf := xif_f c5 hf
      refine lv_aload_n hx hb dX8_readsEntry_114 rfl (lv_at hl 2 rfl) ?_
      refine x_get (v := .ref (xAd κ 253)) hc hw co_245 fX8_36 rfl dX8_readsEntry_115 ?_
      refine lv_iload_n hx hb dX8_readsEntry_118 rfl (lv_at hl 1 rfl) ?_
      refine lv_aload_n hx hb dX8_readsEntry_119 rfl (lv_at hl 2 rfl) ?_
      refine lv_iload_n hx hb dX8_readsEntry_120 rfl (lv_at hl 0 rfl) ?_
      refine lv_bipush (v := 99) hx hb dX8_readsEntry_121 (by decide) ?_
      refine lv_icmp_eq (tgt := 138) hx hb dX8_readsEntry_123 (by decide) (fun c29 => ?_) (fun c29 => ?_)
      · have hf := xif_t c29 hf
        refine lv_iconst (v := 1) hx hb dX8_readsEntry_138 (by decide) ?_
        refine lv_goto (tgt := 143) hx hb dX8_readsEntry_139 (by decide) ?_
        obtain ⟨v30, uF13_31, uF15_32, h33, hf⟩ := xb3_of hf
        refine x_calliV (As := [.int 1]) (rest := [.int (3 * uF18), .ref (xAd κ 253)]) (σ' := (wA, wT, wG, wM, (uF0, uF1, uF2, uF3, uF4, uF5, uF6, uF7, uF8, uF9, uF10, uF11, uF12, uF13_31, uF14, uF15_32, (upd uF16 uF18.toNatClampNeg v1), uF17, uF18), wO)) hc hw hl.1 (m_X8_number h33) kX8_281 co_245 rfl rfl ⟨rfl, rfl⟩ ⟨Nat.le_of_ble_eq_true rfl, Nat.le_of_ble_eq_true rfl⟩ ⟨Nat.zero_le _, Nat.zero_le _⟩ (Nat.le_of_ble_eq_true rfl) dX8_readsEntry_143 (fun H locs hw => ?_)
        obtain ⟨k34, hf⟩ := xk_of hf
        refine x_iast (n := 108) (f := uF17) (σ' := (wA, wT, wG, wM, (uF0, uF1, uF2, uF3, uF4, uF5, uF6, uF7, uF8, uF9, uF10, uF11, uF12, uF13_31, uF14, uF15_32, (upd uF16 uF18.toNatClampNeg v1), (upd uF17 (3 * uF18).toNatClampNeg v30), uF18), wO)) hc hw co_253 k34 so_F_17 dX8_readsEntry_146 (fun H locs hw => ?_)
        exact jl_X8_readsEntry_147 hc K _ _ _ _ _ _ _ _ _ _ hf hw (lv_sub hl [2, 1, 0] rfl)
      · have hf := xif_f c29 hf
        refine lv_iload_n hx hb dX8_readsEntry_126 rfl (lv_at hl 0 rfl) ?_
        refine lv_bipush (v := 112) hx hb dX8_readsEntry_127 (by decide) ?_
        refine lv_icmp_eq (tgt := 138) hx hb dX8_readsEntry_129 (by decide) (fun c35 => ?_) (fun c35 => ?_)
        · have hf := xif_t c35 hf
          refine lv_iconst (v := 1) hx hb dX8_readsEntry_138 (by decide) ?_
          refine lv_goto (tgt := 143) hx hb dX8_readsEntry_139 (by decide) ?_
          obtain ⟨v36, uF13_37, uF15_38, h39, hf⟩ := xb3_of hf
          refine x_calliV (As := [.int 1]) (rest := [.int (3 * uF18), .ref (xAd κ 253)]) (σ' := (wA, wT, wG, wM, (uF0, uF1, uF2, uF3, uF4, uF5, uF6, uF7, uF8, uF9, uF10, uF11, uF12, uF13_37, uF14, uF15_38, (upd uF16 uF18.toNatClampNeg v1), uF17, uF18), wO)) hc hw hl.1 (m_X8_number h39) kX8_281 co_245 rfl rfl ⟨rfl, rfl⟩ ⟨Nat.le_of_ble_eq_true rfl, Nat.le_of_ble_eq_true rfl⟩ ⟨Nat.zero_le _, Nat.zero_le _⟩ (Nat.le_of_ble_eq_true rfl) dX8_readsEntry_143 (fun H locs hw => ?_)
          obtain ⟨k40, hf⟩ := xk_of hf
          refine x_iast (n := 108) (f := uF17) (σ' := (wA, wT, wG, wM, (uF0, uF1, uF2, uF3, uF4, uF5, uF6, uF7, uF8, uF9, uF10, uF11, uF12, uF13_37, uF14, uF15_38, (upd uF16 uF18.toNatClampNeg v1), (upd uF17 (3 * uF18).toNatClampNeg v36), uF18), wO)) hc hw co_253 k40 so_F_17 dX8_readsEntry_146 (fun H locs hw => ?_)
          exact jl_X8_readsEntry_147 hc K _ _ _ _ _ _ _ _ _ _ hf hw (lv_sub hl [2, 1, 0] rfl)
        · have hf := xif_f c35 hf
          refine lv_iload_n hx hb dX8_readsEntry_132 rfl (lv_at hl 0 rfl) ?_
          refine lv_bipush (v := 115) hx hb dX8_readsEntry_133 (by decide) ?_
          refine lv_icmp_ne (tgt := 142) hx hb dX8_readsEntry_135 (by decide) (fun c41 => ?_) (fun c41 => ?_)
          · have hf := xif_f c41 hf
            refine lv_iconst (v := 3) hx hb dX8_readsEntry_142 (by decide) ?_
            obtain ⟨v42, uF13_43, uF15_44, h45, hf⟩ := xb3_of hf
            refine x_calliV (As := [.int 3]) (rest := [.int (3 * uF18), .ref (xAd κ 253)]) (σ' := (wA, wT, wG, wM, (uF0, uF1, uF2, uF3, uF4, uF5, uF6, uF7, uF8, uF9, uF10, uF11, uF12, uF13_43, uF14, uF15_44, (upd uF16 uF18.toNatClampNeg v1), uF17, uF18), wO)) hc hw hl.1 (m_X8_number h45) kX8_281 co_245 rfl rfl ⟨rfl, rfl⟩ ⟨Nat.le_of_ble_eq_true rfl, Nat.le_of_ble_eq_true rfl⟩ ⟨Nat.zero_le _, Nat.zero_le _⟩ (Nat.le_of_ble_eq_true rfl) dX8_readsEntry_143 (fun H locs hw => ?_)
            obtain ⟨k46, hf⟩ := xk_of hf
            refine x_iast (n := 108) (f := uF17) (σ' := (wA, wT, wG, wM, (uF0, uF1, uF2, uF3, uF4, uF5, uF6, uF7, uF8, uF9, uF10, uF11, uF12, uF13_43, uF14, uF15_44, (upd uF16 uF18.toNatClampNeg v1), (upd uF17 (3 * uF18).toNatClampNeg v42), uF18), wO)) hc hw co_253 k46 so_F_17 dX8_readsEntry_146 (fun H locs hw => ?_)
            exact jl_X8_readsEntry_147 hc K _ _ _ _ _ _ _ _ _ _ hf hw (lv_sub hl [2, 1, 0] rfl)
          · have hf := xif_t c41 hf
            refine lv_iconst (v := 1) hx hb dX8_readsEntry_138 (by decide) ?_
            refine lv_goto (tgt := 143) hx hb dX8_readsEntry_139 (by decide) ?_
            obtain ⟨v47, uF13_48, uF15_49, h50, hf⟩ := xb3_of hf
            refine x_calliV (As := [.int 1]) (rest := [.int (3 * uF18), .ref (xAd κ 253)]) (σ' := (wA, wT, wG, wM, (uF0, uF1, uF2, uF3, uF4, uF5, uF6, uF7, uF8, uF9, uF10, uF11, uF12, uF13_48, uF14, uF15_49, (upd uF16 uF18.toNatClampNeg v1), uF17, uF18), wO)) hc hw hl.1 (m_X8_number h50) kX8_281 co_245 rfl rfl ⟨rfl, rfl⟩ ⟨Nat.le_of_ble_eq_true rfl, Nat.le_of_ble_eq_true rfl⟩ ⟨Nat.zero_le _, Nat.zero_le _⟩ (Nat.le_of_ble_eq_true rfl) dX8_readsEntry_143 (fun H locs hw => ?_)
            obtain ⟨k51, hf⟩ := xk_of hf
            refine x_iast (n := 108) (f := uF17) (σ' := (wA, wT, wG, wM, (uF0, uF1, uF2, uF3, uF4, uF5, uF6, uF7, uF8, uF9, uF10, uF11, uF12, uF13_48, uF14, uF15_49, (upd uF16 uF18.toNatClampNeg v1), (upd uF17 (3 * uF18).toNatClampNeg v47), uF18), wO)) hc hw co_253 k51 so_F_17 dX8_readsEntry_146 (fun H locs hw => ?_)
            exact jl_X8_readsEntry_147 hc K _ _ _ _ _ _ _ _ _ _ hf hw (lv_sub hl [2, 1, 0] rfl)
  · have hf := xif_f c4 hf
    refine lv_iload_n hx hb dX8_readsEntry_29 rfl (lv_at hl 0 rfl) ?_
    refine lv_bipush (v := 97) hx hb dX8_readsEntry_30 (by decide) ?_
    refine lv_icmp_eq (tgt := 71) hx hb dX8_readsEntry_32 (by decide) (fun c52 => ?_) (fun c52 => ?_)
    · have hf := xif_t c52 hf
      refine lv_iconst (v := 1) hx hb dX8_readsEntry_71 (by decide) ?_
      refine lv_goto (tgt := 76) hx hb dX8_readsEntry_72 (by decide) ?_
      refine x_put (σ' := (wA, wT, wG, wM, (uF0, uF1, uF2, uF3, uF4, uF5, uF6, uF7, uF8, uF9, uF10, uF11, uF12, uF13, uF14, 1, (upd uF16 uF18.toNatClampNeg v1), uF17, uF18), wO)) hc hw co_245 fX8_271 rfl rfl (Nat.le_of_ble_eq_true rfl) so_F_15 dX8_readsEntry_76 (fun H locs hw => ?_)
      refine lv_aload_n hx hb dX8_readsEntry_79 rfl (lv_at hl 2 rfl) ?_
      refine lv_dup hx hb dX8_readsEntry_80 rfl ?_
      refine x_get (v := .int uF13) hc hw co_245 fX8_265 rfl dX8_readsEntry_81 ?_
      refine lv_aload_n hx hb dX8_readsEntry_84 rfl (lv_at hl 2 rfl) ?_
      refine x_get (v := .int 1) hc hw co_245 fX8_271 rfl dX8_readsEntry_85 ?_
      refine lv_if_eq (tgt := 95) hx hb dX8_readsEntry_88 (by decide) (fun q => absurd q (by decide)) (fun _ => ?_)
      refine lv_iconst (v := 1) hx hb dX8_readsEntry_91 (by decide) ?_
      refine lv_goto (tgt := 96) hx hb dX8_readsEntry_92 (by decide) ?_
      refine lv_iadd hx hb dX8_readsEntry_96 ?_
      refine x_put (σ' := (wA, wT, wG, wM, (uF0, uF1, uF2, uF3, uF4, uF5, uF6, uF7, uF8, uF9, uF10, uF11, uF12, (uF13 + 1), uF14, 1, (upd uF16 uF18.toNatClampNeg v1), uF17, uF18), wO)) hc hw co_245 fX8_265 rfl rfl (Nat.le_of_ble_eq_true rfl) so_F_13 dX8_readsEntry_97 (fun H locs hw => ?_)
      refine lv_aload_n hx hb dX8_readsEntry_100 rfl (lv_at hl 2 rfl) ?_
      refine x_get (v := .int 1) hc hw co_245 fX8_271 rfl dX8_readsEntry_101 ?_
      refine lv_if_ne (tgt := 108) hx hb dX8_readsEntry_104 (by decide) (fun _ => ?_) (fun q => absurd q (by decide))
      refine lv_iload_n hx hb dX8_readsEntry_108 rfl (lv_at hl 0 rfl) ?_
      refine lv_bipush (v := 103) hx hb dX8_readsEntry_109 (by decide) ?_
      refine lv_icmp_eq (tgt := 147) hx hb dX8_readsEntry_111 (by decide) (fun c53 => ?_) (fun c53 => ?_)
      · have hf := xif_t c53 hf
        exact jl_X8_readsEntry_147 hc K _ _ _ _ _ _ _ _ _ _ hf hw (lv_sub hl [2, 1, 0] rfl)
      · have hf := xif_f c53 hf
        refine lv_aload_n hx hb dX8_readsEntry_114 rfl (lv_at hl 2 rfl) ?_
        refine x_get (v := .ref (xAd κ 253)) hc hw co_245 fX8_36 rfl dX8_readsEntry_115 ?_
        refine lv_iload_n hx hb dX8_readsEntry_118 rfl (lv_at hl 1 rfl) ?_
        refine lv_aload_n hx hb dX8_readsEntry_119 rfl (lv_at hl 2 rfl) ?_
        refine lv_iload_n hx hb dX8_readsEntry_120 rfl (lv_at hl 0 rfl) ?_
        refine lv_bipush (v := 99) hx hb dX8_readsEntry_121 (by decide) ?_
        refine lv_icmp_eq (tgt := 138) hx hb dX8_readsEntry_123 (by decide) (fun c54 => ?_) (fun c54 => ?_)
        · have hf := xif_t c54 hf
          refine lv_iconst (v := 1) hx hb dX8_readsEntry_138 (by decide) ?_
          refine lv_goto (tgt := 143) hx hb dX8_readsEntry_139 (by decide) ?_
          obtain ⟨v55, uF13_56, uF15_57, h58, hf⟩ := xb3_of hf
          refine x_calliV (As := [.int 1]) (rest := [.int (3 * uF18), .ref (xAd κ 253)]) (σ' := (wA, wT, wG, wM, (uF0, uF1, uF2, uF3, uF4, uF5, uF6, uF7, uF8, uF9, uF10, uF11, uF12, uF13_56, uF14, uF15_57, (upd uF16 uF18.toNatClampNeg v1), uF17, uF18), wO)) hc hw hl.1 (m_X8_number h58) kX8_281 co_245 rfl rfl ⟨rfl, rfl⟩ ⟨Nat.le_of_ble_eq_true rfl, Nat.le_of_ble_eq_true rfl⟩ ⟨Nat.zero_le _, Nat.zero_le _⟩ (Nat.le_of_ble_eq_true rfl) dX8_readsEntry_143 (fun H locs hw => ?_)
          obtain ⟨k59, hf⟩ := xk_of hf
          refine x_iast (n := 108) (f := uF17) (σ' := (wA, wT, wG, wM, (uF0, uF1, uF2, uF3, uF4, uF5, uF6, uF7, uF8, uF9, uF10, uF11, uF12, uF13_56, uF14, uF15_57, (upd uF16 uF18.toNatClampNeg v1), (upd uF17 (3 * uF18).toNatClampNeg v55), uF18), wO)) hc hw co_253 k59 so_F_17 dX8_readsEntry_146 (fun H locs hw => ?_)
          exact jl_X8_readsEntry_147 hc K _ _ _ _ _ _ _ _ _ _ hf hw (lv_sub hl [2, 1, 0] rfl)
        · have hf := xif_f c54 hf
          refine lv_iload_n hx hb dX8_readsEntry_126 rfl (lv_at hl 0 rfl) ?_
          refine lv_bipush (v := 112) hx hb dX8_readsEntry_127 (by decide) ?_
          refine lv_icmp_eq (tgt := 138) hx hb dX8_readsEntry_129 (by decide) (fun c60 => ?_) (fun c60 => ?_)
          · have hf := xif_t c60 hf
            refine lv_iconst (v := 1) hx hb dX8_readsEntry_138 (by decide) ?_
            refine lv_goto (tgt := 143) hx hb dX8_readsEntry_139 (by decide) ?_
            obtain ⟨v61, uF13_62, uF15_63, h64, hf⟩ := xb3_of hf
            refine x_calliV (As := [.int 1]) (rest := [.int (3 * uF18), .ref (xAd κ 253)]) (σ' := (wA, wT, wG, wM, (uF0, uF1, uF2, uF3, uF4, uF5, uF6, uF7, uF8, uF9, uF10, uF11, uF12, uF13_62, uF14, uF15_63, (upd uF16 uF18.toNatClampNeg v1), uF17, uF18), wO)) hc hw hl.1 (m_X8_number h64) kX8_281 co_245 rfl rfl ⟨rfl, rfl⟩ ⟨Nat.le_of_ble_eq_true rfl, Nat.le_of_ble_eq_true rfl⟩ ⟨Nat.zero_le _, Nat.zero_le _⟩ (Nat.le_of_ble_eq_true rfl) dX8_readsEntry_143 (fun H locs hw => ?_)
            obtain ⟨k65, hf⟩ := xk_of hf
            refine x_iast (n := 108) (f := uF17) (σ' := (wA, wT, wG, wM, (uF0, uF1, uF2, uF3, uF4, uF5, uF6, uF7, uF8, uF9, uF10, uF11, uF12, uF13_62, uF14, uF15_63, (upd uF16 uF18.toNatClampNeg v1), (upd uF17 (3 * uF18).toNatClampNeg v61), uF18), wO)) hc hw co_253 k65 so_F_17 dX8_readsEntry_146 (fun H locs hw => ?_)
            exact jl_X8_readsEntry_147 hc K _ _ _ _ _ _ _ _ _ _ hf hw (lv_sub hl [2, 1, 0] rfl)
          · have hf := xif_f c60 hf
            refine lv_iload_n hx hb dX8_readsEntry_132 rfl (lv_at hl 0 rfl) ?_
            refine lv_bipush (v := 115) hx hb dX8_readsEntry_133 (by decide) ?_
            refine lv_icmp_ne (tgt := 142) hx hb dX8_readsEntry_135 (by decide) (fun c66 => ?_) (fun c66 => ?_)
            · have hf := xif_f c66 hf
              refine lv_iconst (v := 3) hx hb dX8_readsEntry_142 (by decide) ?_
              obtain ⟨v67, uF13_68, uF15_69, h70, hf⟩ := xb3_of hf
              refine x_calliV (As := [.int 3]) (rest := [.int (3 * uF18), .ref (xAd κ 253)]) (σ' := (wA, wT, wG, wM, (uF0, uF1, uF2, uF3, uF4, uF5, uF6, uF7, uF8, uF9, uF10, uF11, uF12, uF13_68, uF14, uF15_69, (upd uF16 uF18.toNatClampNeg v1), uF17, uF18), wO)) hc hw hl.1 (m_X8_number h70) kX8_281 co_245 rfl rfl ⟨rfl, rfl⟩ ⟨Nat.le_of_ble_eq_true rfl, Nat.le_of_ble_eq_true rfl⟩ ⟨Nat.zero_le _, Nat.zero_le _⟩ (Nat.le_of_ble_eq_true rfl) dX8_readsEntry_143 (fun H locs hw => ?_)
              obtain ⟨k71, hf⟩ := xk_of hf
              refine x_iast (n := 108) (f := uF17) (σ' := (wA, wT, wG, wM, (uF0, uF1, uF2, uF3, uF4, uF5, uF6, uF7, uF8, uF9, uF10, uF11, uF12, uF13_68, uF14, uF15_69, (upd uF16 uF18.toNatClampNeg v1), (upd uF17 (3 * uF18).toNatClampNeg v67), uF18), wO)) hc hw co_253 k71 so_F_17 dX8_readsEntry_146 (fun H locs hw => ?_)
              exact jl_X8_readsEntry_147 hc K _ _ _ _ _ _ _ _ _ _ hf hw (lv_sub hl [2, 1, 0] rfl)
            · have hf := xif_t c66 hf
              refine lv_iconst (v := 1) hx hb dX8_readsEntry_138 (by decide) ?_
              refine lv_goto (tgt := 143) hx hb dX8_readsEntry_139 (by decide) ?_
              obtain ⟨v72, uF13_73, uF15_74, h75, hf⟩ := xb3_of hf
              refine x_calliV (As := [.int 1]) (rest := [.int (3 * uF18), .ref (xAd κ 253)]) (σ' := (wA, wT, wG, wM, (uF0, uF1, uF2, uF3, uF4, uF5, uF6, uF7, uF8, uF9, uF10, uF11, uF12, uF13_73, uF14, uF15_74, (upd uF16 uF18.toNatClampNeg v1), uF17, uF18), wO)) hc hw hl.1 (m_X8_number h75) kX8_281 co_245 rfl rfl ⟨rfl, rfl⟩ ⟨Nat.le_of_ble_eq_true rfl, Nat.le_of_ble_eq_true rfl⟩ ⟨Nat.zero_le _, Nat.zero_le _⟩ (Nat.le_of_ble_eq_true rfl) dX8_readsEntry_143 (fun H locs hw => ?_)
              obtain ⟨k76, hf⟩ := xk_of hf
              refine x_iast (n := 108) (f := uF17) (σ' := (wA, wT, wG, wM, (uF0, uF1, uF2, uF3, uF4, uF5, uF6, uF7, uF8, uF9, uF10, uF11, uF12, uF13_73, uF14, uF15_74, (upd uF16 uF18.toNatClampNeg v1), (upd uF17 (3 * uF18).toNatClampNeg v72), uF18), wO)) hc hw co_253 k76 so_F_17 dX8_readsEntry_146 (fun H locs hw => ?_)
              exact jl_X8_readsEntry_147 hc K _ _ _ _ _ _ _ _ _ _ hf hw (lv_sub hl [2, 1, 0] rfl)
    · have hf := xif_f c52 hf
      refine lv_iload_n hx hb dX8_readsEntry_35 rfl (lv_at hl 0 rfl) ?_
      refine lv_bipush (v := 100) hx hb dX8_readsEntry_36 (by decide) ?_
      refine lv_icmp_eq (tgt := 71) hx hb dX8_readsEntry_38 (by decide) (fun c77 => ?_) (fun c77 => ?_)
      · have hf := xif_t c77 hf
        refine lv_iconst (v := 1) hx hb dX8_readsEntry_71 (by decide) ?_
        refine lv_goto (tgt := 76) hx hb dX8_readsEntry_72 (by decide) ?_
        refine x_put (σ' := (wA, wT, wG, wM, (uF0, uF1, uF2, uF3, uF4, uF5, uF6, uF7, uF8, uF9, uF10, uF11, uF12, uF13, uF14, 1, (upd uF16 uF18.toNatClampNeg v1), uF17, uF18), wO)) hc hw co_245 fX8_271 rfl rfl (Nat.le_of_ble_eq_true rfl) so_F_15 dX8_readsEntry_76 (fun H locs hw => ?_)
        refine lv_aload_n hx hb dX8_readsEntry_79 rfl (lv_at hl 2 rfl) ?_
        refine lv_dup hx hb dX8_readsEntry_80 rfl ?_
        refine x_get (v := .int uF13) hc hw co_245 fX8_265 rfl dX8_readsEntry_81 ?_
        refine lv_aload_n hx hb dX8_readsEntry_84 rfl (lv_at hl 2 rfl) ?_
        refine x_get (v := .int 1) hc hw co_245 fX8_271 rfl dX8_readsEntry_85 ?_
        refine lv_if_eq (tgt := 95) hx hb dX8_readsEntry_88 (by decide) (fun q => absurd q (by decide)) (fun _ => ?_)
        refine lv_iconst (v := 1) hx hb dX8_readsEntry_91 (by decide) ?_
        refine lv_goto (tgt := 96) hx hb dX8_readsEntry_92 (by decide) ?_
        refine lv_iadd hx hb dX8_readsEntry_96 ?_
        refine x_put (σ' := (wA, wT, wG, wM, (uF0, uF1, uF2, uF3, uF4, uF5, uF6, uF7, uF8, uF9, uF10, uF11, uF12, (uF13 + 1), uF14, 1, (upd uF16 uF18.toNatClampNeg v1), uF17, uF18), wO)) hc hw co_245 fX8_265 rfl rfl (Nat.le_of_ble_eq_true rfl) so_F_13 dX8_readsEntry_97 (fun H locs hw => ?_)
        refine lv_aload_n hx hb dX8_readsEntry_100 rfl (lv_at hl 2 rfl) ?_
        refine x_get (v := .int 1) hc hw co_245 fX8_271 rfl dX8_readsEntry_101 ?_
        refine lv_if_ne (tgt := 108) hx hb dX8_readsEntry_104 (by decide) (fun _ => ?_) (fun q => absurd q (by decide))
        refine lv_iload_n hx hb dX8_readsEntry_108 rfl (lv_at hl 0 rfl) ?_
        refine lv_bipush (v := 103) hx hb dX8_readsEntry_109 (by decide) ?_
        refine lv_icmp_eq (tgt := 147) hx hb dX8_readsEntry_111 (by decide) (fun c78 => ?_) (fun c78 => ?_)
        · have hf := xif_t c78 hf
          exact jl_X8_readsEntry_147 hc K _ _ _ _ _ _ _ _ _ _ hf hw (lv_sub hl [2, 1, 0] rfl)
        · have hf := xif_f c78 hf
          refine lv_aload_n hx hb dX8_readsEntry_114 rfl (lv_at hl 2 rfl) ?_
          refine x_get (v := .ref (xAd κ 253)) hc hw co_245 fX8_36 rfl dX8_readsEntry_115 ?_
          refine lv_iload_n hx hb dX8_readsEntry_118 rfl (lv_at hl 1 rfl) ?_
          refine lv_aload_n hx hb dX8_readsEntry_119 rfl (lv_at hl 2 rfl) ?_
          refine lv_iload_n hx hb dX8_readsEntry_120 rfl (lv_at hl 0 rfl) ?_
          refine lv_bipush (v := 99) hx hb dX8_readsEntry_121 (by decide) ?_
          refine lv_icmp_eq (tgt := 138) hx hb dX8_readsEntry_123 (by decide) (fun c79 => ?_) (fun c79 => ?_)
          · have hf := xif_t c79 hf
            refine lv_iconst (v := 1) hx hb dX8_readsEntry_138 (by decide) ?_
            refine lv_goto (tgt := 143) hx hb dX8_readsEntry_139 (by decide) ?_
            obtain ⟨v80, uF13_81, uF15_82, h83, hf⟩ := xb3_of hf
            refine x_calliV (As := [.int 1]) (rest := [.int (3 * uF18), .ref (xAd κ 253)]) (σ' := (wA, wT, wG, wM, (uF0, uF1, uF2, uF3, uF4, uF5, uF6, uF7, uF8, uF9, uF10, uF11, uF12, uF13_81, uF14, uF15_82, (upd uF16 uF18.toNatClampNeg v1), uF17, uF18), wO)) hc hw hl.1 (m_X8_number h83) kX8_281 co_245 rfl rfl ⟨rfl, rfl⟩ ⟨Nat.le_of_ble_eq_true rfl, Nat.le_of_ble_eq_true rfl⟩ ⟨Nat.zero_le _, Nat.zero_le _⟩ (Nat.le_of_ble_eq_true rfl) dX8_readsEntry_143 (fun H locs hw => ?_)
            obtain ⟨k84, hf⟩ := xk_of hf
            refine x_iast (n := 108) (f := uF17) (σ' := (wA, wT, wG, wM, (uF0, uF1, uF2, uF3, uF4, uF5, uF6, uF7, uF8, uF9, uF10, uF11, uF12, uF13_81, uF14, uF15_82, (upd uF16 uF18.toNatClampNeg v1), (upd uF17 (3 * uF18).toNatClampNeg v80), uF18), wO)) hc hw co_253 k84 so_F_17 dX8_readsEntry_146 (fun H locs hw => ?_)
            exact jl_X8_readsEntry_147 hc K _ _ _ _ _ _ _ _ _ _ hf hw (lv_sub hl [2, 1, 0] rfl)
          · have hf := xif_f c79 hf
            refine lv_iload_n hx hb dX8_readsEntry_126 rfl (lv_at hl 0 rfl) ?_
            refine lv_bipush (v := 112) hx hb dX8_readsEntry_127 (by decide) ?_
            refine lv_icmp_eq (tgt := 138) hx hb dX8_readsEntry_129 (by decide) (fun c85 => ?_) (fun c85 => ?_)
            · have hf := xif_t c85 hf
              refine lv_iconst (v := 1) hx hb dX8_readsEntry_138 (by decide) ?_
              refine lv_goto (tgt := 143) hx hb dX8_readsEntry_139 (by decide) ?_
              obtain ⟨v86, uF13_87, uF15_88, h89, hf⟩ := xb3_of hf
              refine x_calliV (As := [.int 1]) (rest := [.int (3 * uF18), .ref (xAd κ 253)]) (σ' := (wA, wT, wG, wM, (uF0, uF1, uF2, uF3, uF4, uF5, uF6, uF7, uF8, uF9, uF10, uF11, uF12, uF13_87, uF14, uF15_88, (upd uF16 uF18.toNatClampNeg v1), uF17, uF18), wO)) hc hw hl.1 (m_X8_number h89) kX8_281 co_245 rfl rfl ⟨rfl, rfl⟩ ⟨Nat.le_of_ble_eq_true rfl, Nat.le_of_ble_eq_true rfl⟩ ⟨Nat.zero_le _, Nat.zero_le _⟩ (Nat.le_of_ble_eq_true rfl) dX8_readsEntry_143 (fun H locs hw => ?_)
              obtain ⟨k90, hf⟩ := xk_of hf
              refine x_iast (n := 108) (f := uF17) (σ' := (wA, wT, wG, wM, (uF0, uF1, uF2, uF3, uF4, uF5, uF6, uF7, uF8, uF9, uF10, uF11, uF12, uF13_87, uF14, uF15_88, (upd uF16 uF18.toNatClampNeg v1), (upd uF17 (3 * uF18).toNatClampNeg v86), uF18), wO)) hc hw co_253 k90 so_F_17 dX8_readsEntry_146 (fun H locs hw => ?_)
              exact jl_X8_readsEntry_147 hc K _ _ _ _ _ _ _ _ _ _ hf hw (lv_sub hl [2, 1, 0] rfl)
            · have hf := xif_f c85 hf
              refine lv_iload_n hx hb dX8_readsEntry_132 rfl (lv_at hl 0 rfl) ?_
              refine lv_bipush (v := 115) hx hb dX8_readsEntry_133 (by decide) ?_
              refine lv_icmp_ne (tgt := 142) hx hb dX8_readsEntry_135 (by decide) (fun c91 => ?_) (fun c91 => ?_)
              · have hf := xif_f c91 hf
                refine lv_iconst (v := 3) hx hb dX8_readsEntry_142 (by decide) ?_
                obtain ⟨v92, uF13_93, uF15_94, h95, hf⟩ := xb3_of hf
                refine x_calliV (As := [.int 3]) (rest := [.int (3 * uF18), .ref (xAd κ 253)]) (σ' := (wA, wT, wG, wM, (uF0, uF1, uF2, uF3, uF4, uF5, uF6, uF7, uF8, uF9, uF10, uF11, uF12, uF13_93, uF14, uF15_94, (upd uF16 uF18.toNatClampNeg v1), uF17, uF18), wO)) hc hw hl.1 (m_X8_number h95) kX8_281 co_245 rfl rfl ⟨rfl, rfl⟩ ⟨Nat.le_of_ble_eq_true rfl, Nat.le_of_ble_eq_true rfl⟩ ⟨Nat.zero_le _, Nat.zero_le _⟩ (Nat.le_of_ble_eq_true rfl) dX8_readsEntry_143 (fun H locs hw => ?_)
                obtain ⟨k96, hf⟩ := xk_of hf
                refine x_iast (n := 108) (f := uF17) (σ' := (wA, wT, wG, wM, (uF0, uF1, uF2, uF3, uF4, uF5, uF6, uF7, uF8, uF9, uF10, uF11, uF12, uF13_93, uF14, uF15_94, (upd uF16 uF18.toNatClampNeg v1), (upd uF17 (3 * uF18).toNatClampNeg v92), uF18), wO)) hc hw co_253 k96 so_F_17 dX8_readsEntry_146 (fun H locs hw => ?_)
                exact jl_X8_readsEntry_147 hc K _ _ _ _ _ _ _ _ _ _ hf hw (lv_sub hl [2, 1, 0] rfl)
              · have hf := xif_t c91 hf
                refine lv_iconst (v := 1) hx hb dX8_readsEntry_138 (by decide) ?_
                refine lv_goto (tgt := 143) hx hb dX8_readsEntry_139 (by decide) ?_
                obtain ⟨v97, uF13_98, uF15_99, h100, hf⟩ := xb3_of hf
                refine x_calliV (As := [.int 1]) (rest := [.int (3 * uF18), .ref (xAd κ 253)]) (σ' := (wA, wT, wG, wM, (uF0, uF1, uF2, uF3, uF4, uF5, uF6, uF7, uF8, uF9, uF10, uF11, uF12, uF13_98, uF14, uF15_99, (upd uF16 uF18.toNatClampNeg v1), uF17, uF18), wO)) hc hw hl.1 (m_X8_number h100) kX8_281 co_245 rfl rfl ⟨rfl, rfl⟩ ⟨Nat.le_of_ble_eq_true rfl, Nat.le_of_ble_eq_true rfl⟩ ⟨Nat.zero_le _, Nat.zero_le _⟩ (Nat.le_of_ble_eq_true rfl) dX8_readsEntry_143 (fun H locs hw => ?_)
                obtain ⟨k101, hf⟩ := xk_of hf
                refine x_iast (n := 108) (f := uF17) (σ' := (wA, wT, wG, wM, (uF0, uF1, uF2, uF3, uF4, uF5, uF6, uF7, uF8, uF9, uF10, uF11, uF12, uF13_98, uF14, uF15_99, (upd uF16 uF18.toNatClampNeg v1), (upd uF17 (3 * uF18).toNatClampNeg v97), uF18), wO)) hc hw co_253 k101 so_F_17 dX8_readsEntry_146 (fun H locs hw => ?_)
                exact jl_X8_readsEntry_147 hc K _ _ _ _ _ _ _ _ _ _ hf hw (lv_sub hl [2, 1, 0] rfl)
      · have hf := xif_f c77 hf
        refine lv_iload_n hx hb dX8_readsEntry_41 rfl (lv_at hl 0 rfl) ?_
        refine lv_bipush (v := 119) hx hb dX8_readsEntry_42 (by decide) ?_
        refine lv_icmp_eq (tgt := 71) hx hb dX8_readsEntry_44 (by decide) (fun c102 => ?_) (fun c102 => ?_)
        · have hf := xif_t c102 hf
          refine lv_iconst (v := 1) hx hb dX8_readsEntry_71 (by decide) ?_
          refine lv_goto (tgt := 76) hx hb dX8_readsEntry_72 (by decide) ?_
          refine x_put (σ' := (wA, wT, wG, wM, (uF0, uF1, uF2, uF3, uF4, uF5, uF6, uF7, uF8, uF9, uF10, uF11, uF12, uF13, uF14, 1, (upd uF16 uF18.toNatClampNeg v1), uF17, uF18), wO)) hc hw co_245 fX8_271 rfl rfl (Nat.le_of_ble_eq_true rfl) so_F_15 dX8_readsEntry_76 (fun H locs hw => ?_)
          refine lv_aload_n hx hb dX8_readsEntry_79 rfl (lv_at hl 2 rfl) ?_
          refine lv_dup hx hb dX8_readsEntry_80 rfl ?_
          refine x_get (v := .int uF13) hc hw co_245 fX8_265 rfl dX8_readsEntry_81 ?_
          refine lv_aload_n hx hb dX8_readsEntry_84 rfl (lv_at hl 2 rfl) ?_
          refine x_get (v := .int 1) hc hw co_245 fX8_271 rfl dX8_readsEntry_85 ?_
          refine lv_if_eq (tgt := 95) hx hb dX8_readsEntry_88 (by decide) (fun q => absurd q (by decide)) (fun _ => ?_)
          refine lv_iconst (v := 1) hx hb dX8_readsEntry_91 (by decide) ?_
          refine lv_goto (tgt := 96) hx hb dX8_readsEntry_92 (by decide) ?_
          refine lv_iadd hx hb dX8_readsEntry_96 ?_
          refine x_put (σ' := (wA, wT, wG, wM, (uF0, uF1, uF2, uF3, uF4, uF5, uF6, uF7, uF8, uF9, uF10, uF11, uF12, (uF13 + 1), uF14, 1, (upd uF16 uF18.toNatClampNeg v1), uF17, uF18), wO)) hc hw co_245 fX8_265 rfl rfl (Nat.le_of_ble_eq_true rfl) so_F_13 dX8_readsEntry_97 (fun H locs hw => ?_)
          refine lv_aload_n hx hb dX8_readsEntry_100 rfl (lv_at hl 2 rfl) ?_
          refine x_get (v := .int 1) hc hw co_245 fX8_271 rfl dX8_readsEntry_101 ?_
          refine lv_if_ne (tgt := 108) hx hb dX8_readsEntry_104 (by decide) (fun _ => ?_) (fun q => absurd q (by decide))
          refine lv_iload_n hx hb dX8_readsEntry_108 rfl (lv_at hl 0 rfl) ?_
          refine lv_bipush (v := 103) hx hb dX8_readsEntry_109 (by decide) ?_
          refine lv_icmp_eq (tgt := 147) hx hb dX8_readsEntry_111 (by decide) (fun c103 => ?_) (fun c103 => ?_)
          · have hf := xif_t c103 hf
            exact jl_X8_readsEntry_147 hc K _ _ _ _ _ _ _ _ _ _ hf hw (lv_sub hl [2, 1, 0] rfl)
          · have hf := xif_f c103 hf
            refine lv_aload_n hx hb dX8_readsEntry_114 rfl (lv_at hl 2 rfl) ?_
            refine x_get (v := .ref (xAd κ 253)) hc hw co_245 fX8_36 rfl dX8_readsEntry_115 ?_
            refine lv_iload_n hx hb dX8_readsEntry_118 rfl (lv_at hl 1 rfl) ?_
            refine lv_aload_n hx hb dX8_readsEntry_119 rfl (lv_at hl 2 rfl) ?_
            refine lv_iload_n hx hb dX8_readsEntry_120 rfl (lv_at hl 0 rfl) ?_
            refine lv_bipush (v := 99) hx hb dX8_readsEntry_121 (by decide) ?_
            refine lv_icmp_eq (tgt := 138) hx hb dX8_readsEntry_123 (by decide) (fun c104 => ?_) (fun c104 => ?_)
            · have hf := xif_t c104 hf
              refine lv_iconst (v := 1) hx hb dX8_readsEntry_138 (by decide) ?_
              refine lv_goto (tgt := 143) hx hb dX8_readsEntry_139 (by decide) ?_
              obtain ⟨v105, uF13_106, uF15_107, h108, hf⟩ := xb3_of hf
              refine x_calliV (As := [.int 1]) (rest := [.int (3 * uF18), .ref (xAd κ 253)]) (σ' := (wA, wT, wG, wM, (uF0, uF1, uF2, uF3, uF4, uF5, uF6, uF7, uF8, uF9, uF10, uF11, uF12, uF13_106, uF14, uF15_107, (upd uF16 uF18.toNatClampNeg v1), uF17, uF18), wO)) hc hw hl.1 (m_X8_number h108) kX8_281 co_245 rfl rfl ⟨rfl, rfl⟩ ⟨Nat.le_of_ble_eq_true rfl, Nat.le_of_ble_eq_true rfl⟩ ⟨Nat.zero_le _, Nat.zero_le _⟩ (Nat.le_of_ble_eq_true rfl) dX8_readsEntry_143 (fun H locs hw => ?_)
              obtain ⟨k109, hf⟩ := xk_of hf
              refine x_iast (n := 108) (f := uF17) (σ' := (wA, wT, wG, wM, (uF0, uF1, uF2, uF3, uF4, uF5, uF6, uF7, uF8, uF9, uF10, uF11, uF12, uF13_106, uF14, uF15_107, (upd uF16 uF18.toNatClampNeg v1), (upd uF17 (3 * uF18).toNatClampNeg v105), uF18), wO)) hc hw co_253 k109 so_F_17 dX8_readsEntry_146 (fun H locs hw => ?_)
              exact jl_X8_readsEntry_147 hc K _ _ _ _ _ _ _ _ _ _ hf hw (lv_sub hl [2, 1, 0] rfl)
            · have hf := xif_f c104 hf
              refine lv_iload_n hx hb dX8_readsEntry_126 rfl (lv_at hl 0 rfl) ?_
              refine lv_bipush (v := 112) hx hb dX8_readsEntry_127 (by decide) ?_
              refine lv_icmp_eq (tgt := 138) hx hb dX8_readsEntry_129 (by decide) (fun c110 => ?_) (fun c110 => ?_)
              · have hf := xif_t c110 hf
                refine lv_iconst (v := 1) hx hb dX8_readsEntry_138 (by decide) ?_
                refine lv_goto (tgt := 143) hx hb dX8_readsEntry_139 (by decide) ?_
                obtain ⟨v111, uF13_112, uF15_113, h114, hf⟩ := xb3_of hf
                refine x_calliV (As := [.int 1]) (rest := [.int (3 * uF18), .ref (xAd κ 253)]) (σ' := (wA, wT, wG, wM, (uF0, uF1, uF2, uF3, uF4, uF5, uF6, uF7, uF8, uF9, uF10, uF11, uF12, uF13_112, uF14, uF15_113, (upd uF16 uF18.toNatClampNeg v1), uF17, uF18), wO)) hc hw hl.1 (m_X8_number h114) kX8_281 co_245 rfl rfl ⟨rfl, rfl⟩ ⟨Nat.le_of_ble_eq_true rfl, Nat.le_of_ble_eq_true rfl⟩ ⟨Nat.zero_le _, Nat.zero_le _⟩ (Nat.le_of_ble_eq_true rfl) dX8_readsEntry_143 (fun H locs hw => ?_)
                obtain ⟨k115, hf⟩ := xk_of hf
                refine x_iast (n := 108) (f := uF17) (σ' := (wA, wT, wG, wM, (uF0, uF1, uF2, uF3, uF4, uF5, uF6, uF7, uF8, uF9, uF10, uF11, uF12, uF13_112, uF14, uF15_113, (upd uF16 uF18.toNatClampNeg v1), (upd uF17 (3 * uF18).toNatClampNeg v111), uF18), wO)) hc hw co_253 k115 so_F_17 dX8_readsEntry_146 (fun H locs hw => ?_)
                exact jl_X8_readsEntry_147 hc K _ _ _ _ _ _ _ _ _ _ hf hw (lv_sub hl [2, 1, 0] rfl)
              · have hf := xif_f c110 hf
                refine lv_iload_n hx hb dX8_readsEntry_132 rfl (lv_at hl 0 rfl) ?_
                refine lv_bipush (v := 115) hx hb dX8_readsEntry_133 (by decide) ?_
                refine lv_icmp_ne (tgt := 142) hx hb dX8_readsEntry_135 (by decide) (fun c116 => ?_) (fun c116 => ?_)
                · have hf := xif_f c116 hf
                  refine lv_iconst (v := 3) hx hb dX8_readsEntry_142 (by decide) ?_
                  obtain ⟨v117, uF13_118, uF15_119, h120, hf⟩ := xb3_of hf
                  refine x_calliV (As := [.int 3]) (rest := [.int (3 * uF18), .ref (xAd κ 253)]) (σ' := (wA, wT, wG, wM, (uF0, uF1, uF2, uF3, uF4, uF5, uF6, uF7, uF8, uF9, uF10, uF11, uF12, uF13_118, uF14, uF15_119, (upd uF16 uF18.toNatClampNeg v1), uF17, uF18), wO)) hc hw hl.1 (m_X8_number h120) kX8_281 co_245 rfl rfl ⟨rfl, rfl⟩ ⟨Nat.le_of_ble_eq_true rfl, Nat.le_of_ble_eq_true rfl⟩ ⟨Nat.zero_le _, Nat.zero_le _⟩ (Nat.le_of_ble_eq_true rfl) dX8_readsEntry_143 (fun H locs hw => ?_)
                  obtain ⟨k121, hf⟩ := xk_of hf
                  refine x_iast (n := 108) (f := uF17) (σ' := (wA, wT, wG, wM, (uF0, uF1, uF2, uF3, uF4, uF5, uF6, uF7, uF8, uF9, uF10, uF11, uF12, uF13_118, uF14, uF15_119, (upd uF16 uF18.toNatClampNeg v1), (upd uF17 (3 * uF18).toNatClampNeg v117), uF18), wO)) hc hw co_253 k121 so_F_17 dX8_readsEntry_146 (fun H locs hw => ?_)
                  exact jl_X8_readsEntry_147 hc K _ _ _ _ _ _ _ _ _ _ hf hw (lv_sub hl [2, 1, 0] rfl)
                · have hf := xif_t c116 hf
                  refine lv_iconst (v := 1) hx hb dX8_readsEntry_138 (by decide) ?_
                  refine lv_goto (tgt := 143) hx hb dX8_readsEntry_139 (by decide) ?_
                  obtain ⟨v122, uF13_123, uF15_124, h125, hf⟩ := xb3_of hf
                  refine x_calliV (As := [.int 1]) (rest := [.int (3 * uF18), .ref (xAd κ 253)]) (σ' := (wA, wT, wG, wM, (uF0, uF1, uF2, uF3, uF4, uF5, uF6, uF7, uF8, uF9, uF10, uF11, uF12, uF13_123, uF14, uF15_124, (upd uF16 uF18.toNatClampNeg v1), uF17, uF18), wO)) hc hw hl.1 (m_X8_number h125) kX8_281 co_245 rfl rfl ⟨rfl, rfl⟩ ⟨Nat.le_of_ble_eq_true rfl, Nat.le_of_ble_eq_true rfl⟩ ⟨Nat.zero_le _, Nat.zero_le _⟩ (Nat.le_of_ble_eq_true rfl) dX8_readsEntry_143 (fun H locs hw => ?_)
                  obtain ⟨k126, hf⟩ := xk_of hf
                  refine x_iast (n := 108) (f := uF17) (σ' := (wA, wT, wG, wM, (uF0, uF1, uF2, uF3, uF4, uF5, uF6, uF7, uF8, uF9, uF10, uF11, uF12, uF13_123, uF14, uF15_124, (upd uF16 uF18.toNatClampNeg v1), (upd uF17 (3 * uF18).toNatClampNeg v122), uF18), wO)) hc hw co_253 k126 so_F_17 dX8_readsEntry_146 (fun H locs hw => ?_)
                  exact jl_X8_readsEntry_147 hc K _ _ _ _ _ _ _ _ _ _ hf hw (lv_sub hl [2, 1, 0] rfl)
        · have hf := xif_f c102 hf
          refine lv_iload_n hx hb dX8_readsEntry_47 rfl (lv_at hl 0 rfl) ?_
          refine lv_bipush (v := 112) hx hb dX8_readsEntry_48 (by decide) ?_
          refine lv_icmp_eq (tgt := 71) hx hb dX8_readsEntry_50 (by decide) (fun c127 => ?_) (fun c127 => ?_)
          · have hf := xif_t c127 hf
            refine lv_iconst (v := 1) hx hb dX8_readsEntry_71 (by decide) ?_
            refine lv_goto (tgt := 76) hx hb dX8_readsEntry_72 (by decide) ?_
            refine x_put (σ' := (wA, wT, wG, wM, (uF0, uF1, uF2, uF3, uF4, uF5, uF6, uF7, uF8, uF9, uF10, uF11, uF12, uF13, uF14, 1, (upd uF16 uF18.toNatClampNeg v1), uF17, uF18), wO)) hc hw co_245 fX8_271 rfl rfl (Nat.le_of_ble_eq_true rfl) so_F_15 dX8_readsEntry_76 (fun H locs hw => ?_)
            refine lv_aload_n hx hb dX8_readsEntry_79 rfl (lv_at hl 2 rfl) ?_
            refine lv_dup hx hb dX8_readsEntry_80 rfl ?_
            refine x_get (v := .int uF13) hc hw co_245 fX8_265 rfl dX8_readsEntry_81 ?_
            refine lv_aload_n hx hb dX8_readsEntry_84 rfl (lv_at hl 2 rfl) ?_
            refine x_get (v := .int 1) hc hw co_245 fX8_271 rfl dX8_readsEntry_85 ?_
            refine lv_if_eq (tgt := 95) hx hb dX8_readsEntry_88 (by decide) (fun q => absurd q (by decide)) (fun _ => ?_)
            refine lv_iconst (v := 1) hx hb dX8_readsEntry_91 (by decide) ?_
            refine lv_goto (tgt := 96) hx hb dX8_readsEntry_92 (by decide) ?_
            refine lv_iadd hx hb dX8_readsEntry_96 ?_
            refine x_put (σ' := (wA, wT, wG, wM, (uF0, uF1, uF2, uF3, uF4, uF5, uF6, uF7, uF8, uF9, uF10, uF11, uF12, (uF13 + 1), uF14, 1, (upd uF16 uF18.toNatClampNeg v1), uF17, uF18), wO)) hc hw co_245 fX8_265 rfl rfl (Nat.le_of_ble_eq_true rfl) so_F_13 dX8_readsEntry_97 (fun H locs hw => ?_)
            refine lv_aload_n hx hb dX8_readsEntry_100 rfl (lv_at hl 2 rfl) ?_
            refine x_get (v := .int 1) hc hw co_245 fX8_271 rfl dX8_readsEntry_101 ?_
            refine lv_if_ne (tgt := 108) hx hb dX8_readsEntry_104 (by decide) (fun _ => ?_) (fun q => absurd q (by decide))
            refine lv_iload_n hx hb dX8_readsEntry_108 rfl (lv_at hl 0 rfl) ?_
            refine lv_bipush (v := 103) hx hb dX8_readsEntry_109 (by decide) ?_
            refine lv_icmp_eq (tgt := 147) hx hb dX8_readsEntry_111 (by decide) (fun c128 => ?_) (fun c128 => ?_)
            · have hf := xif_t c128 hf
              exact jl_X8_readsEntry_147 hc K _ _ _ _ _ _ _ _ _ _ hf hw (lv_sub hl [2, 1, 0] rfl)
            · have hf := xif_f c128 hf
              refine lv_aload_n hx hb dX8_readsEntry_114 rfl (lv_at hl 2 rfl) ?_
              refine x_get (v := .ref (xAd κ 253)) hc hw co_245 fX8_36 rfl dX8_readsEntry_115 ?_
              refine lv_iload_n hx hb dX8_readsEntry_118 rfl (lv_at hl 1 rfl) ?_
              refine lv_aload_n hx hb dX8_readsEntry_119 rfl (lv_at hl 2 rfl) ?_
              refine lv_iload_n hx hb dX8_readsEntry_120 rfl (lv_at hl 0 rfl) ?_
              refine lv_bipush (v := 99) hx hb dX8_readsEntry_121 (by decide) ?_
              refine lv_icmp_eq (tgt := 138) hx hb dX8_readsEntry_123 (by decide) (fun c129 => ?_) (fun c129 => ?_)
              · have hf := xif_t c129 hf
                refine lv_iconst (v := 1) hx hb dX8_readsEntry_138 (by decide) ?_
                refine lv_goto (tgt := 143) hx hb dX8_readsEntry_139 (by decide) ?_
                obtain ⟨v130, uF13_131, uF15_132, h133, hf⟩ := xb3_of hf
                refine x_calliV (As := [.int 1]) (rest := [.int (3 * uF18), .ref (xAd κ 253)]) (σ' := (wA, wT, wG, wM, (uF0, uF1, uF2, uF3, uF4, uF5, uF6, uF7, uF8, uF9, uF10, uF11, uF12, uF13_131, uF14, uF15_132, (upd uF16 uF18.toNatClampNeg v1), uF17, uF18), wO)) hc hw hl.1 (m_X8_number h133) kX8_281 co_245 rfl rfl ⟨rfl, rfl⟩ ⟨Nat.le_of_ble_eq_true rfl, Nat.le_of_ble_eq_true rfl⟩ ⟨Nat.zero_le _, Nat.zero_le _⟩ (Nat.le_of_ble_eq_true rfl) dX8_readsEntry_143 (fun H locs hw => ?_)
                obtain ⟨k134, hf⟩ := xk_of hf
                refine x_iast (n := 108) (f := uF17) (σ' := (wA, wT, wG, wM, (uF0, uF1, uF2, uF3, uF4, uF5, uF6, uF7, uF8, uF9, uF10, uF11, uF12, uF13_131, uF14, uF15_132, (upd uF16 uF18.toNatClampNeg v1), (upd uF17 (3 * uF18).toNatClampNeg v130), uF18), wO)) hc hw co_253 k134 so_F_17 dX8_readsEntry_146 (fun H locs hw => ?_)
                exact jl_X8_readsEntry_147 hc K _ _ _ _ _ _ _ _ _ _ hf hw (lv_sub hl [2, 1, 0] rfl)
              · have hf := xif_f c129 hf
                refine lv_iload_n hx hb dX8_readsEntry_126 rfl (lv_at hl 0 rfl) ?_
                refine lv_bipush (v := 112) hx hb dX8_readsEntry_127 (by decide) ?_
                refine lv_icmp_eq (tgt := 138) hx hb dX8_readsEntry_129 (by decide) (fun c135 => ?_) (fun c135 => ?_)
                · have hf := xif_t c135 hf
                  refine lv_iconst (v := 1) hx hb dX8_readsEntry_138 (by decide) ?_
                  refine lv_goto (tgt := 143) hx hb dX8_readsEntry_139 (by decide) ?_
                  obtain ⟨v136, uF13_137, uF15_138, h139, hf⟩ := xb3_of hf
                  refine x_calliV (As := [.int 1]) (rest := [.int (3 * uF18), .ref (xAd κ 253)]) (σ' := (wA, wT, wG, wM, (uF0, uF1, uF2, uF3, uF4, uF5, uF6, uF7, uF8, uF9, uF10, uF11, uF12, uF13_137, uF14, uF15_138, (upd uF16 uF18.toNatClampNeg v1), uF17, uF18), wO)) hc hw hl.1 (m_X8_number h139) kX8_281 co_245 rfl rfl ⟨rfl, rfl⟩ ⟨Nat.le_of_ble_eq_true rfl, Nat.le_of_ble_eq_true rfl⟩ ⟨Nat.zero_le _, Nat.zero_le _⟩ (Nat.le_of_ble_eq_true rfl) dX8_readsEntry_143 (fun H locs hw => ?_)
                  obtain ⟨k140, hf⟩ := xk_of hf
                  refine x_iast (n := 108) (f := uF17) (σ' := (wA, wT, wG, wM, (uF0, uF1, uF2, uF3, uF4, uF5, uF6, uF7, uF8, uF9, uF10, uF11, uF12, uF13_137, uF14, uF15_138, (upd uF16 uF18.toNatClampNeg v1), (upd uF17 (3 * uF18).toNatClampNeg v136), uF18), wO)) hc hw co_253 k140 so_F_17 dX8_readsEntry_146 (fun H locs hw => ?_)
                  exact jl_X8_readsEntry_147 hc K _ _ _ _ _ _ _ _ _ _ hf hw (lv_sub hl [2, 1, 0] rfl)
                · have hf := xif_f c135 hf
                  refine lv_iload_n hx hb dX8_readsEntry_132 rfl (lv_at hl 0 rfl) ?_
                  refine lv_bipush (v := 115) hx hb dX8_readsEntry_133 (by decide) ?_
                  refine lv_icmp_ne (tgt := 142) hx hb dX8_readsEntry_135 (by decide) (fun c141 => ?_) (fun c141 => ?_)
                  · have hf := xif_f c141 hf
                    refine lv_iconst (v := 3) hx hb dX8_readsEntry_142 (by decide) ?_
                    obtain ⟨v142, uF13_143, uF15_144, h145, hf⟩ := xb3_of hf
                    refine x_calliV (As := [.int 3]) (rest := [.int (3 * uF18), .ref (xAd κ 253)]) (σ' := (wA, wT, wG, wM, (uF0, uF1, uF2, uF3, uF4, uF5, uF6, uF7, uF8, uF9, uF10, uF11, uF12, uF13_143, uF14, uF15_144, (upd uF16 uF18.toNatClampNeg v1), uF17, uF18), wO)) hc hw hl.1 (m_X8_number h145) kX8_281 co_245 rfl rfl ⟨rfl, rfl⟩ ⟨Nat.le_of_ble_eq_true rfl, Nat.le_of_ble_eq_true rfl⟩ ⟨Nat.zero_le _, Nat.zero_le _⟩ (Nat.le_of_ble_eq_true rfl) dX8_readsEntry_143 (fun H locs hw => ?_)
                    obtain ⟨k146, hf⟩ := xk_of hf
                    refine x_iast (n := 108) (f := uF17) (σ' := (wA, wT, wG, wM, (uF0, uF1, uF2, uF3, uF4, uF5, uF6, uF7, uF8, uF9, uF10, uF11, uF12, uF13_143, uF14, uF15_144, (upd uF16 uF18.toNatClampNeg v1), (upd uF17 (3 * uF18).toNatClampNeg v142), uF18), wO)) hc hw co_253 k146 so_F_17 dX8_readsEntry_146 (fun H locs hw => ?_)
                    exact jl_X8_readsEntry_147 hc K _ _ _ _ _ _ _ _ _ _ hf hw (lv_sub hl [2, 1, 0] rfl)
                  · have hf := xif_t c141 hf
                    refine lv_iconst (v := 1) hx hb dX8_readsEntry_138 (by decide) ?_
                    refine lv_goto (tgt := 143) hx hb dX8_readsEntry_139 (by decide) ?_
                    obtain ⟨v147, uF13_148, uF15_149, h150, hf⟩ := xb3_of hf
                    refine x_calliV (As := [.int 1]) (rest := [.int (3 * uF18), .ref (xAd κ 253)]) (σ' := (wA, wT, wG, wM, (uF0, uF1, uF2, uF3, uF4, uF5, uF6, uF7, uF8, uF9, uF10, uF11, uF12, uF13_148, uF14, uF15_149, (upd uF16 uF18.toNatClampNeg v1), uF17, uF18), wO)) hc hw hl.1 (m_X8_number h150) kX8_281 co_245 rfl rfl ⟨rfl, rfl⟩ ⟨Nat.le_of_ble_eq_true rfl, Nat.le_of_ble_eq_true rfl⟩ ⟨Nat.zero_le _, Nat.zero_le _⟩ (Nat.le_of_ble_eq_true rfl) dX8_readsEntry_143 (fun H locs hw => ?_)
                    obtain ⟨k151, hf⟩ := xk_of hf
                    refine x_iast (n := 108) (f := uF17) (σ' := (wA, wT, wG, wM, (uF0, uF1, uF2, uF3, uF4, uF5, uF6, uF7, uF8, uF9, uF10, uF11, uF12, uF13_148, uF14, uF15_149, (upd uF16 uF18.toNatClampNeg v1), (upd uF17 (3 * uF18).toNatClampNeg v147), uF18), wO)) hc hw co_253 k151 so_F_17 dX8_readsEntry_146 (fun H locs hw => ?_)
                    exact jl_X8_readsEntry_147 hc K _ _ _ _ _ _ _ _ _ _ hf hw (lv_sub hl [2, 1, 0] rfl)
          · have hf := xif_f c127 hf
            refine lv_iload_n hx hb dX8_readsEntry_53 rfl (lv_at hl 0 rfl) ?_
            refine lv_bipush (v := 115) hx hb dX8_readsEntry_54 (by decide) ?_
            refine lv_icmp_eq (tgt := 71) hx hb dX8_readsEntry_56 (by decide) (fun c152 => ?_) (fun c152 => ?_)
            · have hf := xif_t c152 hf
              refine lv_iconst (v := 1) hx hb dX8_readsEntry_71 (by decide) ?_
              refine lv_goto (tgt := 76) hx hb dX8_readsEntry_72 (by decide) ?_
              refine x_put (σ' := (wA, wT, wG, wM, (uF0, uF1, uF2, uF3, uF4, uF5, uF6, uF7, uF8, uF9, uF10, uF11, uF12, uF13, uF14, 1, (upd uF16 uF18.toNatClampNeg v1), uF17, uF18), wO)) hc hw co_245 fX8_271 rfl rfl (Nat.le_of_ble_eq_true rfl) so_F_15 dX8_readsEntry_76 (fun H locs hw => ?_)
              refine lv_aload_n hx hb dX8_readsEntry_79 rfl (lv_at hl 2 rfl) ?_
              refine lv_dup hx hb dX8_readsEntry_80 rfl ?_
              refine x_get (v := .int uF13) hc hw co_245 fX8_265 rfl dX8_readsEntry_81 ?_
              refine lv_aload_n hx hb dX8_readsEntry_84 rfl (lv_at hl 2 rfl) ?_
              refine x_get (v := .int 1) hc hw co_245 fX8_271 rfl dX8_readsEntry_85 ?_
              refine lv_if_eq (tgt := 95) hx hb dX8_readsEntry_88 (by decide) (fun q => absurd q (by decide)) (fun _ => ?_)
              refine lv_iconst (v := 1) hx hb dX8_readsEntry_91 (by decide) ?_
              refine lv_goto (tgt := 96) hx hb dX8_readsEntry_92 (by decide) ?_
              refine lv_iadd hx hb dX8_readsEntry_96 ?_
              refine x_put (σ' := (wA, wT, wG, wM, (uF0, uF1, uF2, uF3, uF4, uF5, uF6, uF7, uF8, uF9, uF10, uF11, uF12, (uF13 + 1), uF14, 1, (upd uF16 uF18.toNatClampNeg v1), uF17, uF18), wO)) hc hw co_245 fX8_265 rfl rfl (Nat.le_of_ble_eq_true rfl) so_F_13 dX8_readsEntry_97 (fun H locs hw => ?_)
              refine lv_aload_n hx hb dX8_readsEntry_100 rfl (lv_at hl 2 rfl) ?_
              refine x_get (v := .int 1) hc hw co_245 fX8_271 rfl dX8_readsEntry_101 ?_
              refine lv_if_ne (tgt := 108) hx hb dX8_readsEntry_104 (by decide) (fun _ => ?_) (fun q => absurd q (by decide))
              refine lv_iload_n hx hb dX8_readsEntry_108 rfl (lv_at hl 0 rfl) ?_
              refine lv_bipush (v := 103) hx hb dX8_readsEntry_109 (by decide) ?_
              refine lv_icmp_eq (tgt := 147) hx hb dX8_readsEntry_111 (by decide) (fun c153 => ?_) (fun c153 => ?_)
              · have hf := xif_t c153 hf
                exact jl_X8_readsEntry_147 hc K _ _ _ _ _ _ _ _ _ _ hf hw (lv_sub hl [2, 1, 0] rfl)
              · have hf := xif_f c153 hf
                refine lv_aload_n hx hb dX8_readsEntry_114 rfl (lv_at hl 2 rfl) ?_
                refine x_get (v := .ref (xAd κ 253)) hc hw co_245 fX8_36 rfl dX8_readsEntry_115 ?_
                refine lv_iload_n hx hb dX8_readsEntry_118 rfl (lv_at hl 1 rfl) ?_
                refine lv_aload_n hx hb dX8_readsEntry_119 rfl (lv_at hl 2 rfl) ?_
                refine lv_iload_n hx hb dX8_readsEntry_120 rfl (lv_at hl 0 rfl) ?_
                refine lv_bipush (v := 99) hx hb dX8_readsEntry_121 (by decide) ?_
                refine lv_icmp_eq (tgt := 138) hx hb dX8_readsEntry_123 (by decide) (fun c154 => ?_) (fun c154 => ?_)
                · have hf := xif_t c154 hf
                  refine lv_iconst (v := 1) hx hb dX8_readsEntry_138 (by decide) ?_
                  refine lv_goto (tgt := 143) hx hb dX8_readsEntry_139 (by decide) ?_
                  obtain ⟨v155, uF13_156, uF15_157, h158, hf⟩ := xb3_of hf
                  refine x_calliV (As := [.int 1]) (rest := [.int (3 * uF18), .ref (xAd κ 253)]) (σ' := (wA, wT, wG, wM, (uF0, uF1, uF2, uF3, uF4, uF5, uF6, uF7, uF8, uF9, uF10, uF11, uF12, uF13_156, uF14, uF15_157, (upd uF16 uF18.toNatClampNeg v1), uF17, uF18), wO)) hc hw hl.1 (m_X8_number h158) kX8_281 co_245 rfl rfl ⟨rfl, rfl⟩ ⟨Nat.le_of_ble_eq_true rfl, Nat.le_of_ble_eq_true rfl⟩ ⟨Nat.zero_le _, Nat.zero_le _⟩ (Nat.le_of_ble_eq_true rfl) dX8_readsEntry_143 (fun H locs hw => ?_)
                  obtain ⟨k159, hf⟩ := xk_of hf
                  refine x_iast (n := 108) (f := uF17) (σ' := (wA, wT, wG, wM, (uF0, uF1, uF2, uF3, uF4, uF5, uF6, uF7, uF8, uF9, uF10, uF11, uF12, uF13_156, uF14, uF15_157, (upd uF16 uF18.toNatClampNeg v1), (upd uF17 (3 * uF18).toNatClampNeg v155), uF18), wO)) hc hw co_253 k159 so_F_17 dX8_readsEntry_146 (fun H locs hw => ?_)
                  exact jl_X8_readsEntry_147 hc K _ _ _ _ _ _ _ _ _ _ hf hw (lv_sub hl [2, 1, 0] rfl)
                · have hf := xif_f c154 hf
                  refine lv_iload_n hx hb dX8_readsEntry_126 rfl (lv_at hl 0 rfl) ?_
                  refine lv_bipush (v := 112) hx hb dX8_readsEntry_127 (by decide) ?_
                  refine lv_icmp_eq (tgt := 138) hx hb dX8_readsEntry_129 (by decide) (fun c160 => ?_) (fun c160 => ?_)
                  · have hf := xif_t c160 hf
                    refine lv_iconst (v := 1) hx hb dX8_readsEntry_138 (by decide) ?_
                    refine lv_goto (tgt := 143) hx hb dX8_readsEntry_139 (by decide) ?_
                    obtain ⟨v161, uF13_162, uF15_163, h164, hf⟩ := xb3_of hf
                    refine x_calliV (As := [.int 1]) (rest := [.int (3 * uF18), .ref (xAd κ 253)]) (σ' := (wA, wT, wG, wM, (uF0, uF1, uF2, uF3, uF4, uF5, uF6, uF7, uF8, uF9, uF10, uF11, uF12, uF13_162, uF14, uF15_163, (upd uF16 uF18.toNatClampNeg v1), uF17, uF18), wO)) hc hw hl.1 (m_X8_number h164) kX8_281 co_245 rfl rfl ⟨rfl, rfl⟩ ⟨Nat.le_of_ble_eq_true rfl, Nat.le_of_ble_eq_true rfl⟩ ⟨Nat.zero_le _, Nat.zero_le _⟩ (Nat.le_of_ble_eq_true rfl) dX8_readsEntry_143 (fun H locs hw => ?_)
                    obtain ⟨k165, hf⟩ := xk_of hf
                    refine x_iast (n := 108) (f := uF17) (σ' := (wA, wT, wG, wM, (uF0, uF1, uF2, uF3, uF4, uF5, uF6, uF7, uF8, uF9, uF10, uF11, uF12, uF13_162, uF14, uF15_163, (upd uF16 uF18.toNatClampNeg v1), (upd uF17 (3 * uF18).toNatClampNeg v161), uF18), wO)) hc hw co_253 k165 so_F_17 dX8_readsEntry_146 (fun H locs hw => ?_)
                    exact jl_X8_readsEntry_147 hc K _ _ _ _ _ _ _ _ _ _ hf hw (lv_sub hl [2, 1, 0] rfl)
                  · have hf := xif_f c160 hf
                    refine lv_iload_n hx hb dX8_readsEntry_132 rfl (lv_at hl 0 rfl) ?_
                    refine lv_bipush (v := 115) hx hb dX8_readsEntry_133 (by decide) ?_
                    refine lv_icmp_ne (tgt := 142) hx hb dX8_readsEntry_135 (by decide) (fun c166 => ?_) (fun c166 => ?_)
                    · have hf := xif_f c166 hf
                      refine lv_iconst (v := 3) hx hb dX8_readsEntry_142 (by decide) ?_
                      obtain ⟨v167, uF13_168, uF15_169, h170, hf⟩ := xb3_of hf
                      refine x_calliV (As := [.int 3]) (rest := [.int (3 * uF18), .ref (xAd κ 253)]) (σ' := (wA, wT, wG, wM, (uF0, uF1, uF2, uF3, uF4, uF5, uF6, uF7, uF8, uF9, uF10, uF11, uF12, uF13_168, uF14, uF15_169, (upd uF16 uF18.toNatClampNeg v1), uF17, uF18), wO)) hc hw hl.1 (m_X8_number h170) kX8_281 co_245 rfl rfl ⟨rfl, rfl⟩ ⟨Nat.le_of_ble_eq_true rfl, Nat.le_of_ble_eq_true rfl⟩ ⟨Nat.zero_le _, Nat.zero_le _⟩ (Nat.le_of_ble_eq_true rfl) dX8_readsEntry_143 (fun H locs hw => ?_)
                      obtain ⟨k171, hf⟩ := xk_of hf
                      refine x_iast (n := 108) (f := uF17) (σ' := (wA, wT, wG, wM, (uF0, uF1, uF2, uF3, uF4, uF5, uF6, uF7, uF8, uF9, uF10, uF11, uF12, uF13_168, uF14, uF15_169, (upd uF16 uF18.toNatClampNeg v1), (upd uF17 (3 * uF18).toNatClampNeg v167), uF18), wO)) hc hw co_253 k171 so_F_17 dX8_readsEntry_146 (fun H locs hw => ?_)
                      exact jl_X8_readsEntry_147 hc K _ _ _ _ _ _ _ _ _ _ hf hw (lv_sub hl [2, 1, 0] rfl)
                    · have hf := xif_t c166 hf
                      refine lv_iconst (v := 1) hx hb dX8_readsEntry_138 (by decide) ?_
                      refine lv_goto (tgt := 143) hx hb dX8_readsEntry_139 (by decide) ?_
                      obtain ⟨v172, uF13_173, uF15_174, h175, hf⟩ := xb3_of hf
                      refine x_calliV (As := [.int 1]) (rest := [.int (3 * uF18), .ref (xAd κ 253)]) (σ' := (wA, wT, wG, wM, (uF0, uF1, uF2, uF3, uF4, uF5, uF6, uF7, uF8, uF9, uF10, uF11, uF12, uF13_173, uF14, uF15_174, (upd uF16 uF18.toNatClampNeg v1), uF17, uF18), wO)) hc hw hl.1 (m_X8_number h175) kX8_281 co_245 rfl rfl ⟨rfl, rfl⟩ ⟨Nat.le_of_ble_eq_true rfl, Nat.le_of_ble_eq_true rfl⟩ ⟨Nat.zero_le _, Nat.zero_le _⟩ (Nat.le_of_ble_eq_true rfl) dX8_readsEntry_143 (fun H locs hw => ?_)
                      obtain ⟨k176, hf⟩ := xk_of hf
                      refine x_iast (n := 108) (f := uF17) (σ' := (wA, wT, wG, wM, (uF0, uF1, uF2, uF3, uF4, uF5, uF6, uF7, uF8, uF9, uF10, uF11, uF12, uF13_173, uF14, uF15_174, (upd uF16 uF18.toNatClampNeg v1), (upd uF17 (3 * uF18).toNatClampNeg v172), uF18), wO)) hc hw co_253 k176 so_F_17 dX8_readsEntry_146 (fun H locs hw => ?_)
                      exact jl_X8_readsEntry_147 hc K _ _ _ _ _ _ _ _ _ _ hf hw (lv_sub hl [2, 1, 0] rfl)
            · have hf := xif_f c152 hf
              refine lv_iload_n hx hb dX8_readsEntry_59 rfl (lv_at hl 0 rfl) ?_
              refine lv_bipush (v := 110) hx hb dX8_readsEntry_60 (by decide) ?_
              refine lv_icmp_eq (tgt := 71) hx hb dX8_readsEntry_62 (by decide) (fun c177 => ?_) (fun c177 => ?_)
              · have hf := xif_t c177 hf
                refine lv_iconst (v := 1) hx hb dX8_readsEntry_71 (by decide) ?_
                refine lv_goto (tgt := 76) hx hb dX8_readsEntry_72 (by decide) ?_
                refine x_put (σ' := (wA, wT, wG, wM, (uF0, uF1, uF2, uF3, uF4, uF5, uF6, uF7, uF8, uF9, uF10, uF11, uF12, uF13, uF14, 1, (upd uF16 uF18.toNatClampNeg v1), uF17, uF18), wO)) hc hw co_245 fX8_271 rfl rfl (Nat.le_of_ble_eq_true rfl) so_F_15 dX8_readsEntry_76 (fun H locs hw => ?_)
                refine lv_aload_n hx hb dX8_readsEntry_79 rfl (lv_at hl 2 rfl) ?_
                refine lv_dup hx hb dX8_readsEntry_80 rfl ?_
                refine x_get (v := .int uF13) hc hw co_245 fX8_265 rfl dX8_readsEntry_81 ?_
                refine lv_aload_n hx hb dX8_readsEntry_84 rfl (lv_at hl 2 rfl) ?_
                refine x_get (v := .int 1) hc hw co_245 fX8_271 rfl dX8_readsEntry_85 ?_
                refine lv_if_eq (tgt := 95) hx hb dX8_readsEntry_88 (by decide) (fun q => absurd q (by decide)) (fun _ => ?_)
                refine lv_iconst (v := 1) hx hb dX8_readsEntry_91 (by decide) ?_
                refine lv_goto (tgt := 96) hx hb dX8_readsEntry_92 (by decide) ?_
                refine lv_iadd hx hb dX8_readsEntry_96 ?_
                refine x_put (σ' := (wA, wT, wG, wM, (uF0, uF1, uF2, uF3, uF4, uF5, uF6, uF7, uF8, uF9, uF10, uF11, uF12, (uF13 + 1), uF14, 1, (upd uF16 uF18.toNatClampNeg v1), uF17, uF18), wO)) hc hw co_245 fX8_265 rfl rfl (Nat.le_of_ble_eq_true rfl) so_F_13 dX8_readsEntry_97 (fun H locs hw => ?_)
                refine lv_aload_n hx hb dX8_readsEntry_100 rfl (lv_at hl 2 rfl) ?_
                refine x_get (v := .int 1) hc hw co_245 fX8_271 rfl dX8_readsEntry_101 ?_
                refine lv_if_ne (tgt := 108) hx hb dX8_readsEntry_104 (by decide) (fun _ => ?_) (fun q => absurd q (by decide))
                refine lv_iload_n hx hb dX8_readsEntry_108 rfl (lv_at hl 0 rfl) ?_
                refine lv_bipush (v := 103) hx hb dX8_readsEntry_109 (by decide) ?_
                refine lv_icmp_eq (tgt := 147) hx hb dX8_readsEntry_111 (by decide) (fun c178 => ?_) (fun c178 => ?_)
                · have hf := xif_t c178 hf
                  exact jl_X8_readsEntry_147 hc K _ _ _ _ _ _ _ _ _ _ hf hw (lv_sub hl [2, 1, 0] rfl)
                · have hf := xif_f c178 hf
                  refine lv_aload_n hx hb dX8_readsEntry_114 rfl (lv_at hl 2 rfl) ?_
                  refine x_get (v := .ref (xAd κ 253)) hc hw co_245 fX8_36 rfl dX8_readsEntry_115 ?_
                  refine lv_iload_n hx hb dX8_readsEntry_118 rfl (lv_at hl 1 rfl) ?_
                  refine lv_aload_n hx hb dX8_readsEntry_119 rfl (lv_at hl 2 rfl) ?_
                  refine lv_iload_n hx hb dX8_readsEntry_120 rfl (lv_at hl 0 rfl) ?_
                  refine lv_bipush (v := 99) hx hb dX8_readsEntry_121 (by decide) ?_
                  refine lv_icmp_eq (tgt := 138) hx hb dX8_readsEntry_123 (by decide) (fun c179 => ?_) (fun c179 => ?_)
                  · have hf := xif_t c179 hf
                    refine lv_iconst (v := 1) hx hb dX8_readsEntry_138 (by decide) ?_
                    refine lv_goto (tgt := 143) hx hb dX8_readsEntry_139 (by decide) ?_
                    obtain ⟨v180, uF13_181, uF15_182, h183, hf⟩ := xb3_of hf
                    refine x_calliV (As := [.int 1]) (rest := [.int (3 * uF18), .ref (xAd κ 253)]) (σ' := (wA, wT, wG, wM, (uF0, uF1, uF2, uF3, uF4, uF5, uF6, uF7, uF8, uF9, uF10, uF11, uF12, uF13_181, uF14, uF15_182, (upd uF16 uF18.toNatClampNeg v1), uF17, uF18), wO)) hc hw hl.1 (m_X8_number h183) kX8_281 co_245 rfl rfl ⟨rfl, rfl⟩ ⟨Nat.le_of_ble_eq_true rfl, Nat.le_of_ble_eq_true rfl⟩ ⟨Nat.zero_le _, Nat.zero_le _⟩ (Nat.le_of_ble_eq_true rfl) dX8_readsEntry_143 (fun H locs hw => ?_)
                    obtain ⟨k184, hf⟩ := xk_of hf
                    refine x_iast (n := 108) (f := uF17) (σ' := (wA, wT, wG, wM, (uF0, uF1, uF2, uF3, uF4, uF5, uF6, uF7, uF8, uF9, uF10, uF11, uF12, uF13_181, uF14, uF15_182, (upd uF16 uF18.toNatClampNeg v1), (upd uF17 (3 * uF18).toNatClampNeg v180), uF18), wO)) hc hw co_253 k184 so_F_17 dX8_readsEntry_146 (fun H locs hw => ?_)
                    exact jl_X8_readsEntry_147 hc K _ _ _ _ _ _ _ _ _ _ hf hw (lv_sub hl [2, 1, 0] rfl)
                  · have hf := xif_f c179 hf
                    refine lv_iload_n hx hb dX8_readsEntry_126 rfl (lv_at hl 0 rfl) ?_
                    refine lv_bipush (v := 112) hx hb dX8_readsEntry_127 (by decide) ?_
                    refine lv_icmp_eq (tgt := 138) hx hb dX8_readsEntry_129 (by decide) (fun c185 => ?_) (fun c185 => ?_)
                    · have hf := xif_t c185 hf
                      refine lv_iconst (v := 1) hx hb dX8_readsEntry_138 (by decide) ?_
                      refine lv_goto (tgt := 143) hx hb dX8_readsEntry_139 (by decide) ?_
                      obtain ⟨v186, uF13_187, uF15_188, h189, hf⟩ := xb3_of hf
                      refine x_calliV (As := [.int 1]) (rest := [.int (3 * uF18), .ref (xAd κ 253)]) (σ' := (wA, wT, wG, wM, (uF0, uF1, uF2, uF3, uF4, uF5, uF6, uF7, uF8, uF9, uF10, uF11, uF12, uF13_187, uF14, uF15_188, (upd uF16 uF18.toNatClampNeg v1), uF17, uF18), wO)) hc hw hl.1 (m_X8_number h189) kX8_281 co_245 rfl rfl ⟨rfl, rfl⟩ ⟨Nat.le_of_ble_eq_true rfl, Nat.le_of_ble_eq_true rfl⟩ ⟨Nat.zero_le _, Nat.zero_le _⟩ (Nat.le_of_ble_eq_true rfl) dX8_readsEntry_143 (fun H locs hw => ?_)
                      obtain ⟨k190, hf⟩ := xk_of hf
                      refine x_iast (n := 108) (f := uF17) (σ' := (wA, wT, wG, wM, (uF0, uF1, uF2, uF3, uF4, uF5, uF6, uF7, uF8, uF9, uF10, uF11, uF12, uF13_187, uF14, uF15_188, (upd uF16 uF18.toNatClampNeg v1), (upd uF17 (3 * uF18).toNatClampNeg v186), uF18), wO)) hc hw co_253 k190 so_F_17 dX8_readsEntry_146 (fun H locs hw => ?_)
                      exact jl_X8_readsEntry_147 hc K _ _ _ _ _ _ _ _ _ _ hf hw (lv_sub hl [2, 1, 0] rfl)
                    · have hf := xif_f c185 hf
                      refine lv_iload_n hx hb dX8_readsEntry_132 rfl (lv_at hl 0 rfl) ?_
                      refine lv_bipush (v := 115) hx hb dX8_readsEntry_133 (by decide) ?_
                      refine lv_icmp_ne (tgt := 142) hx hb dX8_readsEntry_135 (by decide) (fun c191 => ?_) (fun c191 => ?_)
                      · have hf := xif_f c191 hf
                        refine lv_iconst (v := 3) hx hb dX8_readsEntry_142 (by decide) ?_
                        obtain ⟨v192, uF13_193, uF15_194, h195, hf⟩ := xb3_of hf
                        refine x_calliV (As := [.int 3]) (rest := [.int (3 * uF18), .ref (xAd κ 253)]) (σ' := (wA, wT, wG, wM, (uF0, uF1, uF2, uF3, uF4, uF5, uF6, uF7, uF8, uF9, uF10, uF11, uF12, uF13_193, uF14, uF15_194, (upd uF16 uF18.toNatClampNeg v1), uF17, uF18), wO)) hc hw hl.1 (m_X8_number h195) kX8_281 co_245 rfl rfl ⟨rfl, rfl⟩ ⟨Nat.le_of_ble_eq_true rfl, Nat.le_of_ble_eq_true rfl⟩ ⟨Nat.zero_le _, Nat.zero_le _⟩ (Nat.le_of_ble_eq_true rfl) dX8_readsEntry_143 (fun H locs hw => ?_)
                        obtain ⟨k196, hf⟩ := xk_of hf
                        refine x_iast (n := 108) (f := uF17) (σ' := (wA, wT, wG, wM, (uF0, uF1, uF2, uF3, uF4, uF5, uF6, uF7, uF8, uF9, uF10, uF11, uF12, uF13_193, uF14, uF15_194, (upd uF16 uF18.toNatClampNeg v1), (upd uF17 (3 * uF18).toNatClampNeg v192), uF18), wO)) hc hw co_253 k196 so_F_17 dX8_readsEntry_146 (fun H locs hw => ?_)
                        exact jl_X8_readsEntry_147 hc K _ _ _ _ _ _ _ _ _ _ hf hw (lv_sub hl [2, 1, 0] rfl)
                      · have hf := xif_t c191 hf
                        refine lv_iconst (v := 1) hx hb dX8_readsEntry_138 (by decide) ?_
                        refine lv_goto (tgt := 143) hx hb dX8_readsEntry_139 (by decide) ?_
                        obtain ⟨v197, uF13_198, uF15_199, h200, hf⟩ := xb3_of hf
                        refine x_calliV (As := [.int 1]) (rest := [.int (3 * uF18), .ref (xAd κ 253)]) (σ' := (wA, wT, wG, wM, (uF0, uF1, uF2, uF3, uF4, uF5, uF6, uF7, uF8, uF9, uF10, uF11, uF12, uF13_198, uF14, uF15_199, (upd uF16 uF18.toNatClampNeg v1), uF17, uF18), wO)) hc hw hl.1 (m_X8_number h200) kX8_281 co_245 rfl rfl ⟨rfl, rfl⟩ ⟨Nat.le_of_ble_eq_true rfl, Nat.le_of_ble_eq_true rfl⟩ ⟨Nat.zero_le _, Nat.zero_le _⟩ (Nat.le_of_ble_eq_true rfl) dX8_readsEntry_143 (fun H locs hw => ?_)
                        obtain ⟨k201, hf⟩ := xk_of hf
                        refine x_iast (n := 108) (f := uF17) (σ' := (wA, wT, wG, wM, (uF0, uF1, uF2, uF3, uF4, uF5, uF6, uF7, uF8, uF9, uF10, uF11, uF12, uF13_198, uF14, uF15_199, (upd uF16 uF18.toNatClampNeg v1), (upd uF17 (3 * uF18).toNatClampNeg v197), uF18), wO)) hc hw co_253 k201 so_F_17 dX8_readsEntry_146 (fun H locs hw => ?_)
                        exact jl_X8_readsEntry_147 hc K _ _ _ _ _ _ _ _ _ _ hf hw (lv_sub hl [2, 1, 0] rfl)
              · have hf := xif_f c177 hf
                refine lv_iload_n hx hb dX8_readsEntry_65 rfl (lv_at hl 0 rfl) ?_
                refine lv_bipush (v := 103) hx hb dX8_readsEntry_66 (by decide) ?_
                refine lv_icmp_ne (tgt := 75) hx hb dX8_readsEntry_68 (by decide) (fun c202 => ?_) (fun c202 => ?_)
                · have hf := xif_f c202 hf
                  refine lv_iconst (v := 0) hx hb dX8_readsEntry_75 (by decide) ?_
                  refine x_put (σ' := (wA, wT, wG, wM, (uF0, uF1, uF2, uF3, uF4, uF5, uF6, uF7, uF8, uF9, uF10, uF11, uF12, uF13, uF14, 0, (upd uF16 uF18.toNatClampNeg v1), uF17, uF18), wO)) hc hw co_245 fX8_271 rfl rfl (Nat.le_of_ble_eq_true rfl) so_F_15 dX8_readsEntry_76 (fun H locs hw => ?_)
                  refine lv_aload_n hx hb dX8_readsEntry_79 rfl (lv_at hl 2 rfl) ?_
                  refine lv_dup hx hb dX8_readsEntry_80 rfl ?_
                  refine x_get (v := .int uF13) hc hw co_245 fX8_265 rfl dX8_readsEntry_81 ?_
                  refine lv_aload_n hx hb dX8_readsEntry_84 rfl (lv_at hl 2 rfl) ?_
                  refine x_get (v := .int 0) hc hw co_245 fX8_271 rfl dX8_readsEntry_85 ?_
                  refine lv_if_eq (tgt := 95) hx hb dX8_readsEntry_88 (by decide) (fun _ => ?_) (fun q => absurd q (by decide))
                  refine lv_iconst (v := 0) hx hb dX8_readsEntry_95 (by decide) ?_
                  refine lv_iadd hx hb dX8_readsEntry_96 ?_
                  refine x_put (σ' := (wA, wT, wG, wM, (uF0, uF1, uF2, uF3, uF4, uF5, uF6, uF7, uF8, uF9, uF10, uF11, uF12, (uF13 + 0), uF14, 0, (upd uF16 uF18.toNatClampNeg v1), uF17, uF18), wO)) hc hw co_245 fX8_265 rfl rfl (Nat.le_of_ble_eq_true rfl) so_F_13 dX8_readsEntry_97 (fun H locs hw => ?_)
                  refine lv_aload_n hx hb dX8_readsEntry_100 rfl (lv_at hl 2 rfl) ?_
                  refine x_get (v := .int 0) hc hw co_245 fX8_271 rfl dX8_readsEntry_101 ?_
                  refine lv_if_ne (tgt := 108) hx hb dX8_readsEntry_104 (by decide) (fun q => absurd rfl q) (fun _ => ?_)
                  cases hf
                  exact K _ _ _ _ dX8_readsEntry_107 hw
                · have hf := xif_t c202 hf
                  refine lv_iconst (v := 1) hx hb dX8_readsEntry_71 (by decide) ?_
                  refine lv_goto (tgt := 76) hx hb dX8_readsEntry_72 (by decide) ?_
                  refine x_put (σ' := (wA, wT, wG, wM, (uF0, uF1, uF2, uF3, uF4, uF5, uF6, uF7, uF8, uF9, uF10, uF11, uF12, uF13, uF14, 1, (upd uF16 uF18.toNatClampNeg v1), uF17, uF18), wO)) hc hw co_245 fX8_271 rfl rfl (Nat.le_of_ble_eq_true rfl) so_F_15 dX8_readsEntry_76 (fun H locs hw => ?_)
                  refine lv_aload_n hx hb dX8_readsEntry_79 rfl (lv_at hl 2 rfl) ?_
                  refine lv_dup hx hb dX8_readsEntry_80 rfl ?_
                  refine x_get (v := .int uF13) hc hw co_245 fX8_265 rfl dX8_readsEntry_81 ?_
                  refine lv_aload_n hx hb dX8_readsEntry_84 rfl (lv_at hl 2 rfl) ?_
                  refine x_get (v := .int 1) hc hw co_245 fX8_271 rfl dX8_readsEntry_85 ?_
                  refine lv_if_eq (tgt := 95) hx hb dX8_readsEntry_88 (by decide) (fun q => absurd q (by decide)) (fun _ => ?_)
                  refine lv_iconst (v := 1) hx hb dX8_readsEntry_91 (by decide) ?_
                  refine lv_goto (tgt := 96) hx hb dX8_readsEntry_92 (by decide) ?_
                  refine lv_iadd hx hb dX8_readsEntry_96 ?_
                  refine x_put (σ' := (wA, wT, wG, wM, (uF0, uF1, uF2, uF3, uF4, uF5, uF6, uF7, uF8, uF9, uF10, uF11, uF12, (uF13 + 1), uF14, 1, (upd uF16 uF18.toNatClampNeg v1), uF17, uF18), wO)) hc hw co_245 fX8_265 rfl rfl (Nat.le_of_ble_eq_true rfl) so_F_13 dX8_readsEntry_97 (fun H locs hw => ?_)
                  refine lv_aload_n hx hb dX8_readsEntry_100 rfl (lv_at hl 2 rfl) ?_
                  refine x_get (v := .int 1) hc hw co_245 fX8_271 rfl dX8_readsEntry_101 ?_
                  refine lv_if_ne (tgt := 108) hx hb dX8_readsEntry_104 (by decide) (fun _ => ?_) (fun q => absurd q (by decide))
                  refine lv_iload_n hx hb dX8_readsEntry_108 rfl (lv_at hl 0 rfl) ?_
                  refine lv_bipush (v := 103) hx hb dX8_readsEntry_109 (by decide) ?_
                  refine lv_icmp_eq (tgt := 147) hx hb dX8_readsEntry_111 (by decide) (fun c203 => ?_) (fun c203 => ?_)
                  · have hf := xif_t c203 hf
                    exact jl_X8_readsEntry_147 hc K _ _ _ _ _ _ _ _ _ _ hf hw (lv_sub hl [2, 1, 0] rfl)
                  · have hf := xif_f c203 hf
                    refine lv_aload_n hx hb dX8_readsEntry_114 rfl (lv_at hl 2 rfl) ?_
                    refine x_get (v := .ref (xAd κ 253)) hc hw co_245 fX8_36 rfl dX8_readsEntry_115 ?_
                    refine lv_iload_n hx hb dX8_readsEntry_118 rfl (lv_at hl 1 rfl) ?_
                    refine lv_aload_n hx hb dX8_readsEntry_119 rfl (lv_at hl 2 rfl) ?_
                    refine lv_iload_n hx hb dX8_readsEntry_120 rfl (lv_at hl 0 rfl) ?_
                    refine lv_bipush (v := 99) hx hb dX8_readsEntry_121 (by decide) ?_
                    refine lv_icmp_eq (tgt := 138) hx hb dX8_readsEntry_123 (by decide) (fun c204 => ?_) (fun c204 => ?_)
                    · have hf := xif_t c204 hf
                      refine lv_iconst (v := 1) hx hb dX8_readsEntry_138 (by decide) ?_
                      refine lv_goto (tgt := 143) hx hb dX8_readsEntry_139 (by decide) ?_
                      obtain ⟨v205, uF13_206, uF15_207, h208, hf⟩ := xb3_of hf
                      refine x_calliV (As := [.int 1]) (rest := [.int (3 * uF18), .ref (xAd κ 253)]) (σ' := (wA, wT, wG, wM, (uF0, uF1, uF2, uF3, uF4, uF5, uF6, uF7, uF8, uF9, uF10, uF11, uF12, uF13_206, uF14, uF15_207, (upd uF16 uF18.toNatClampNeg v1), uF17, uF18), wO)) hc hw hl.1 (m_X8_number h208) kX8_281 co_245 rfl rfl ⟨rfl, rfl⟩ ⟨Nat.le_of_ble_eq_true rfl, Nat.le_of_ble_eq_true rfl⟩ ⟨Nat.zero_le _, Nat.zero_le _⟩ (Nat.le_of_ble_eq_true rfl) dX8_readsEntry_143 (fun H locs hw => ?_)
                      obtain ⟨k209, hf⟩ := xk_of hf
                      refine x_iast (n := 108) (f := uF17) (σ' := (wA, wT, wG, wM, (uF0, uF1, uF2, uF3, uF4, uF5, uF6, uF7, uF8, uF9, uF10, uF11, uF12, uF13_206, uF14, uF15_207, (upd uF16 uF18.toNatClampNeg v1), (upd uF17 (3 * uF18).toNatClampNeg v205), uF18), wO)) hc hw co_253 k209 so_F_17 dX8_readsEntry_146 (fun H locs hw => ?_)
                      exact jl_X8_readsEntry_147 hc K _ _ _ _ _ _ _ _ _ _ hf hw (lv_sub hl [2, 1, 0] rfl)
                    · have hf := xif_f c204 hf
                      refine lv_iload_n hx hb dX8_readsEntry_126 rfl (lv_at hl 0 rfl) ?_
                      refine lv_bipush (v := 112) hx hb dX8_readsEntry_127 (by decide) ?_
                      refine lv_icmp_eq (tgt := 138) hx hb dX8_readsEntry_129 (by decide) (fun c210 => ?_) (fun c210 => ?_)
                      · have hf := xif_t c210 hf
                        refine lv_iconst (v := 1) hx hb dX8_readsEntry_138 (by decide) ?_
                        refine lv_goto (tgt := 143) hx hb dX8_readsEntry_139 (by decide) ?_
                        obtain ⟨v211, uF13_212, uF15_213, h214, hf⟩ := xb3_of hf
                        refine x_calliV (As := [.int 1]) (rest := [.int (3 * uF18), .ref (xAd κ 253)]) (σ' := (wA, wT, wG, wM, (uF0, uF1, uF2, uF3, uF4, uF5, uF6, uF7, uF8, uF9, uF10, uF11, uF12, uF13_212, uF14, uF15_213, (upd uF16 uF18.toNatClampNeg v1), uF17, uF18), wO)) hc hw hl.1 (m_X8_number h214) kX8_281 co_245 rfl rfl ⟨rfl, rfl⟩ ⟨Nat.le_of_ble_eq_true rfl, Nat.le_of_ble_eq_true rfl⟩ ⟨Nat.zero_le _, Nat.zero_le _⟩ (Nat.le_of_ble_eq_true rfl) dX8_readsEntry_143 (fun H locs hw => ?_)
                        obtain ⟨k215, hf⟩ := xk_of hf
                        refine x_iast (n := 108) (f := uF17) (σ' := (wA, wT, wG, wM, (uF0, uF1, uF2, uF3, uF4, uF5, uF6, uF7, uF8, uF9, uF10, uF11, uF12, uF13_212, uF14, uF15_213, (upd uF16 uF18.toNatClampNeg v1), (upd uF17 (3 * uF18).toNatClampNeg v211), uF18), wO)) hc hw co_253 k215 so_F_17 dX8_readsEntry_146 (fun H locs hw => ?_)
                        exact jl_X8_readsEntry_147 hc K _ _ _ _ _ _ _ _ _ _ hf hw (lv_sub hl [2, 1, 0] rfl)
                      · have hf := xif_f c210 hf
                        refine lv_iload_n hx hb dX8_readsEntry_132 rfl (lv_at hl 0 rfl) ?_
                        refine lv_bipush (v := 115) hx hb dX8_readsEntry_133 (by decide) ?_
                        refine lv_icmp_ne (tgt := 142) hx hb dX8_readsEntry_135 (by decide) (fun c216 => ?_) (fun c216 => ?_)
                        · have hf := xif_f c216 hf
                          refine lv_iconst (v := 3) hx hb dX8_readsEntry_142 (by decide) ?_
                          obtain ⟨v217, uF13_218, uF15_219, h220, hf⟩ := xb3_of hf
                          refine x_calliV (As := [.int 3]) (rest := [.int (3 * uF18), .ref (xAd κ 253)]) (σ' := (wA, wT, wG, wM, (uF0, uF1, uF2, uF3, uF4, uF5, uF6, uF7, uF8, uF9, uF10, uF11, uF12, uF13_218, uF14, uF15_219, (upd uF16 uF18.toNatClampNeg v1), uF17, uF18), wO)) hc hw hl.1 (m_X8_number h220) kX8_281 co_245 rfl rfl ⟨rfl, rfl⟩ ⟨Nat.le_of_ble_eq_true rfl, Nat.le_of_ble_eq_true rfl⟩ ⟨Nat.zero_le _, Nat.zero_le _⟩ (Nat.le_of_ble_eq_true rfl) dX8_readsEntry_143 (fun H locs hw => ?_)
                          obtain ⟨k221, hf⟩ := xk_of hf
                          refine x_iast (n := 108) (f := uF17) (σ' := (wA, wT, wG, wM, (uF0, uF1, uF2, uF3, uF4, uF5, uF6, uF7, uF8, uF9, uF10, uF11, uF12, uF13_218, uF14, uF15_219, (upd uF16 uF18.toNatClampNeg v1), (upd uF17 (3 * uF18).toNatClampNeg v217), uF18), wO)) hc hw co_253 k221 so_F_17 dX8_readsEntry_146 (fun H locs hw => ?_)
                          exact jl_X8_readsEntry_147 hc K _ _ _ _ _ _ _ _ _ _ hf hw (lv_sub hl [2, 1, 0] rfl)
                        · have hf := xif_t c216 hf
                          refine lv_iconst (v := 1) hx hb dX8_readsEntry_138 (by decide) ?_
                          refine lv_goto (tgt := 143) hx hb dX8_readsEntry_139 (by decide) ?_
                          obtain ⟨v222, uF13_223, uF15_224, h225, hf⟩ := xb3_of hf
                          refine x_calliV (As := [.int 1]) (rest := [.int (3 * uF18), .ref (xAd κ 253)]) (σ' := (wA, wT, wG, wM, (uF0, uF1, uF2, uF3, uF4, uF5, uF6, uF7, uF8, uF9, uF10, uF11, uF12, uF13_223, uF14, uF15_224, (upd uF16 uF18.toNatClampNeg v1), uF17, uF18), wO)) hc hw hl.1 (m_X8_number h225) kX8_281 co_245 rfl rfl ⟨rfl, rfl⟩ ⟨Nat.le_of_ble_eq_true rfl, Nat.le_of_ble_eq_true rfl⟩ ⟨Nat.zero_le _, Nat.zero_le _⟩ (Nat.le_of_ble_eq_true rfl) dX8_readsEntry_143 (fun H locs hw => ?_)
                          obtain ⟨k226, hf⟩ := xk_of hf
                          refine x_iast (n := 108) (f := uF17) (σ' := (wA, wT, wG, wM, (uF0, uF1, uF2, uF3, uF4, uF5, uF6, uF7, uF8, uF9, uF10, uF11, uF12, uF13_223, uF14, uF15_224, (upd uF16 uF18.toNatClampNeg v1), (upd uF17 (3 * uF18).toNatClampNeg v222), uF18), wO)) hc hw co_253 k226 so_F_17 dX8_readsEntry_146 (fun H locs hw => ?_)
                          exact jl_X8_readsEntry_147 hc K _ _ _ _ _ _ _ _ _ _ hf hw (lv_sub hl [2, 1, 0] rfl)
def f_X8_readsText_27 (fu : Nat) (uF8 : xF32) : Nat → (Int32) → (Int32) → (Int32) → (Int32) → (xF32) → (xF32) → (Int32) → Option (Int32 × Int32 × Int32 × Int32 × Int32 × xF32 × xF32 × Int32)
  | 0, _, _, _, _, _, _, _ => none
  | n + 1, uF9, uF13, uF14, uF15, uF16, uF17, uF18 => if uF15 = 0 then (xk (xisb uF15) (some (uF15, uF9, uF13, uF14, uF15, uF16, uF17, uF18))) else (if uF14 ≤ uF13 then (xk (xisb uF15) (some (uF15, uF9, uF13, uF14, uF15, uF16, uF17, uF18))) else (xb5 (f_X8_readsEntry fu uF8 uF13 uF14 uF15 uF16 uF17 uF18) fun uF13_11 uF15_12 uF16_13 uF17_14 uF18_15 => (f_X8_readsText_27 fu uF8 n uF9 uF13_11 uF14 uF15_12 uF16_13 uF17_14 uF18_15)))
def f_X8_readsText (fu : Nat) (uF8 : xF32) (uF9 : Int32) (uF13 : Int32) (uF14 : Int32) (uF15 : Int32) (uF16 : xF32) (uF17 : xF32) (uF18 : Int32) : Option (Int32 × Int32 × Int32 × Int32 × Int32 × xF32 × xF32 × Int32) :=
  xb5 (f_X8_readsEntry fu uF8 0 uF9 uF15 uF16 uF17 0) fun uF13_1 uF15_2 uF16_3 uF17_4 uF18_5 => (f_X8_readsText_27 fu uF8 fu 0 uF13_1 uF9 uF15_2 uF16_3 uF17_4 uF18_5)
set_option maxHeartbeats 4000000 in
set_option maxRecDepth 100000 in
theorem l_X8_readsText_27 {l : Launch} {κ : xKt} {wA : Nat → sAcc} {wT : sTxt} {wG : sRng} {wM : sMai} {wO : sOut} {fu : Nat} {uF0 : Int32} {uF1 : xF64} {uF2 : xF64} {uF3 : xF64} {uF4 : xF64} {uF5 : Int32} {uF6 : Int32} {uF7 : Int32} {uF8 : xF32} {uF10 : Int32} {uF11 : Int64} {uF12 : xF32} {A : Nat → Prop} {p : Program} {e : Env} {s : State} {m : MethodId} {args : Array Value} {below : List Frame} {meth : Method} {c : Code} {Q : State → Prop} {rr : Int32} {yF9 : Int32} {yF13 : Int32} {yF14 : Int32} {yF15 : Int32} {yF16 : xF32} {yF17 : xF32} {yF18 : Int32}
    (hc : xC κ A p s m args meth c cX8_readsText RX8 1 (some .boolean))
    (K : ∀ (pc : Nat) (ls : Array Slot) (H : Heap) (locs : List Loc), decode cX8_readsText pc = .ok (.ireturn, 1) → narrow .boolean (.int rr) = .int rr → xW κ A s (wA, wT, wG, wM, (uF0, uF1, uF2, uF3, uF4, uF5, uF6, uF7, uF8, yF9, uF10, uF11, uF12, yF13, yF14, yF15, yF16, yF17, yF18), wO) H locs → W p l e (xR 3 0 0) s m args below meth c H locs 0 0 Q (F0 m pc ls [.int rr])) :
    ∀ (n : Nat) (uF9 : Int32) (uF13 : Int32) (uF14 : Int32) (uF15 : Int32) (uF16 : xF32) (uF17 : xF32) (uF18 : Int32) (H : Heap) (locs : List Loc) (ls : Array Slot), f_X8_readsText_27 fu uF8 n uF9 uF13 uF14 uF15 uF16 uF17 uF18 = some (rr, yF9, yF13, yF14, yF15, yF16, yF17, yF18) → xW κ A s (wA, wT, wG, wM, (uF0, uF1, uF2, uF3, uF4, uF5, uF6, uF7, uF8, uF9, uF10, uF11, uF12, uF13, uF14, uF15, uF16, uF17, uF18), wO) H locs → lv_has ls 1 [(0, .ref (xAd κ 245))] → W p l e (xR 3 0 0) s m args below meth c H locs 0 0 Q (F0 m 27 ls []) := by
  have hx := hc.1.1
  have hb := hc.1.2.1
  intro n
  induction n with
  | zero =>
    intro uF9 uF13 uF14 uF15 uF16 uF17 uF18 H locs ls hf
    rw [f_X8_readsText_27] at hf
    cases hf
  | succ n hi =>
    intro uF9 uF13 uF14 uF15 uF16 uF17 uF18 H locs ls hf hw hl
    rw [f_X8_readsText_27] at hf
    refine lv_aload_n hx hb dX8_readsText_27 rfl (lv_at hl 0 rfl) ?_
    refine x_get (v := .int uF15) hc hw co_245 fX8_271 rfl dX8_readsText_28 ?_
    refine lv_if_eq (tgt := 52) hx hb dX8_readsText_31 (by decide) (fun c7 => ?_) (fun c7 => ?_)
    · have hf := xif_t c7 hf
      refine lv_aload_n hx hb dX8_readsText_52 rfl (lv_at hl 0 rfl) ?_
      refine x_get (v := .int uF15) hc hw co_245 fX8_271 rfl dX8_readsText_53 ?_
      obtain ⟨k8, hf⟩ := xk_of hf
      cases hf
      exact K _ _ _ _ dX8_readsText_56 (xisb_n k8).1 hw
    · have hf := xif_f c7 hf
      refine lv_aload_n hx hb dX8_readsText_34 rfl (lv_at hl 0 rfl) ?_
      refine x_get (v := .int uF13) hc hw co_245 fX8_265 rfl dX8_readsText_35 ?_
      refine lv_aload_n hx hb dX8_readsText_38 rfl (lv_at hl 0 rfl) ?_
      refine x_get (v := .int uF14) hc hw co_245 fX8_268 rfl dX8_readsText_39 ?_
      refine lv_icmp_ge (tgt := 52) hx hb dX8_readsText_42 (by decide) (fun c9 => ?_) (fun c9 => ?_)
      · have hf := xif_t c9 hf
        refine lv_aload_n hx hb dX8_readsText_52 rfl (lv_at hl 0 rfl) ?_
        refine x_get (v := .int uF15) hc hw co_245 fX8_271 rfl dX8_readsText_53 ?_
        obtain ⟨k10, hf⟩ := xk_of hf
        cases hf
        exact K _ _ _ _ dX8_readsText_56 (xisb_n k10).1 hw
      · have hf := xif_f c9 hf
        refine lv_aload_n hx hb dX8_readsText_45 rfl (lv_at hl 0 rfl) ?_
        obtain ⟨uF13_11, uF15_12, uF16_13, uF17_14, uF18_15, h16, hf⟩ := xb5_of hf
        refine x_callvV (As := []) (rest := []) (σ' := (wA, wT, wG, wM, (uF0, uF1, uF2, uF3, uF4, uF5, uF6, uF7, uF8, uF9, uF10, uF11, uF12, uF13_11, uF14, uF15_12, uF16_13, uF17_14, uF18_15), wO)) hc hw hl.1 (m_X8_readsEntry h16) kX8_288 co_245 rfl rfl ⟨rfl, rfl⟩ ⟨Nat.le_of_ble_eq_true rfl, Nat.le_of_ble_eq_true rfl⟩ ⟨Nat.zero_le _, Nat.zero_le _⟩ (Nat.le_of_ble_eq_true rfl) dX8_readsText_46 (fun H locs hw => ?_)
        refine lv_goto (tgt := 27) hx hb dX8_readsText_49 (by decide) ?_
        exact hi _ _ _ _ _ _ _ _ _ _ hf hw (lv_sub hl [0] rfl)
set_option maxHeartbeats 4000000 in
set_option maxRecDepth 100000 in
theorem m_X8_readsText {l : Launch} {κ : xKt} {wA : Nat → sAcc} {wT : sTxt} {wG : sRng} {wM : sMai} {wO : sOut} {fu : Nat} {uF0 : Int32} {uF1 : xF64} {uF2 : xF64} {uF3 : xF64} {uF4 : xF64} {uF5 : Int32} {uF6 : Int32} {uF7 : Int32} {uF8 : xF32} {uF9 : Int32} {uF10 : Int32} {uF11 : Int64} {uF12 : xF32} {uF13 : Int32} {uF14 : Int32} {uF15 : Int32} {uF16 : xF32} {uF17 : xF32} {uF18 : Int32} {rr : Int32} {yF9 : Int32} {yF13 : Int32} {yF14 : Int32} {yF15 : Int32} {yF16 : xF32} {yF17 : xF32} {yF18 : Int32} (hf : f_X8_readsText fu uF8 uF9 uF13 uF14 uF15 uF16 uF17 uF18 = some (rr, yF9, yF13, yF14, yF15, yF16, yF17, yF18)) : xMi l κ yX8_readsText cX8_readsText 1 (some .boolean) (xR 3 0 0) [.ref (xAd κ 245)] (wA, wT, wG, wM, (uF0, uF1, uF2, uF3, uF4, uF5, uF6, uF7, uF8, uF9, uF10, uF11, uF12, uF13, uF14, uF15, uF16, uF17, uF18), wO) (wA, wT, wG, wM, (uF0, uF1, uF2, uF3, uF4, uF5, uF6, uF7, uF8, yF9, uF10, uF11, uF12, yF13, yF14, yF15, yF16, yF17, yF18), wO) rr := by
  unfold f_X8_readsText at hf
  refine xMi_of pn_X8 (Nat.le_of_ble_eq_true rfl) ⟨rfl, rfl⟩ ?_
  intro A p e s m args below meth c ls Q hc hw hl K
  have hc : xC κ A p s m args meth c cX8_readsText RX8 1 (some .boolean) := hc
  have hx := hc.1.1
  have hb := hc.1.2.1
  have hl : lv_has ls 1 [(0, .ref (xAd κ 245))] := hl
  refine lv_aload_n hx hb dX8_readsText_0 rfl (lv_at hl 0 rfl) ?_
  refine lv_iconst (v := 0) hx hb dX8_readsText_1 (by decide) ?_
  refine x_put (σ' := (wA, wT, wG, wM, (uF0, uF1, uF2, uF3, uF4, uF5, uF6, uF7, uF8, uF9, uF10, uF11, uF12, 0, uF14, uF15, uF16, uF17, uF18), wO)) hc hw co_245 fX8_265 rfl rfl (Nat.le_of_ble_eq_true rfl) so_F_13 dX8_readsText_2 (fun H locs hw => ?_)
  refine lv_aload_n hx hb dX8_readsText_5 rfl (lv_at hl 0 rfl) ?_
  refine lv_aload_n hx hb dX8_readsText_6 rfl (lv_at hl 0 rfl) ?_
  refine x_get (v := .int uF9) hc hw co_245 fX8_262 rfl dX8_readsText_7 ?_
  refine x_put (σ' := (wA, wT, wG, wM, (uF0, uF1, uF2, uF3, uF4, uF5, uF6, uF7, uF8, uF9, uF10, uF11, uF12, 0, uF9, uF15, uF16, uF17, uF18), wO)) hc hw co_245 fX8_268 rfl rfl (Nat.le_of_ble_eq_true rfl) so_F_14 dX8_readsText_10 (fun H locs hw => ?_)
  refine lv_aload_n hx hb dX8_readsText_13 rfl (lv_at hl 0 rfl) ?_
  refine lv_iconst (v := 0) hx hb dX8_readsText_14 (by decide) ?_
  refine x_put (σ' := (wA, wT, wG, wM, (uF0, uF1, uF2, uF3, uF4, uF5, uF6, uF7, uF8, 0, uF10, uF11, uF12, 0, uF9, uF15, uF16, uF17, uF18), wO)) hc hw co_245 fX8_262 rfl rfl (Nat.le_of_ble_eq_true rfl) so_F_9 dX8_readsText_15 (fun H locs hw => ?_)
  refine lv_aload_n hx hb dX8_readsText_18 rfl (lv_at hl 0 rfl) ?_
  refine lv_iconst (v := 0) hx hb dX8_readsText_19 (by decide) ?_
  refine x_put (σ' := (wA, wT, wG, wM, (uF0, uF1, uF2, uF3, uF4, uF5, uF6, uF7, uF8, 0, uF10, uF11, uF12, 0, uF9, uF15, uF16, uF17, 0), wO)) hc hw co_245 fX8_278 rfl rfl (Nat.le_of_ble_eq_true rfl) so_F_18 dX8_readsText_20 (fun H locs hw => ?_)
  refine lv_aload_n hx hb dX8_readsText_23 rfl (lv_at hl 0 rfl) ?_
  obtain ⟨uF13_1, uF15_2, uF16_3, uF17_4, uF18_5, h6, hf⟩ := xb5_of hf
  refine x_callvV (As := []) (rest := []) (σ' := (wA, wT, wG, wM, (uF0, uF1, uF2, uF3, uF4, uF5, uF6, uF7, uF8, 0, uF10, uF11, uF12, uF13_1, uF9, uF15_2, uF16_3, uF17_4, uF18_5), wO)) hc hw hl.1 (m_X8_readsEntry h6) kX8_288 co_245 rfl rfl ⟨rfl, rfl⟩ ⟨Nat.le_of_ble_eq_true rfl, Nat.le_of_ble_eq_true rfl⟩ ⟨Nat.zero_le _, Nat.zero_le _⟩ (Nat.le_of_ble_eq_true rfl) dX8_readsText_24 (fun H locs hw => ?_)
  exact l_X8_readsText_27 hc K fu _ _ _ _ _ _ _ _ _ _ hf hw (lv_sub hl [0] rfl)
def f_X8_does (fu : Nat) (x1 : Int32) (uF1 : xF64) (uF7 : Int32) (uF11 : Int64) (uF16 : xF32) (uF17 : xF32) : Option (Int32 × xF64 × Int32 × Int64) :=
  xk (xin (3 * x1) 108) (xk (xin ((3 * x1) + 1) 108) (xk (xin ((3 * x1) + 2) 108) (xk (xin x1 36) (if (uF16 x1.toNatClampNeg) = 97 then (xb4 (f_X8_deciding fu 1 (uF17 (3 * x1).toNatClampNeg) (uF17 ((3 * x1) + 2).toNatClampNeg) uF1 uF7 uF11) fun v6 uF1_7 uF7_8 uF11_9 => (some (v6, uF1_7, uF7_8, uF11_9))) else (if (uF16 x1.toNatClampNeg) = 99 then (xb3 (f_X8_claiming (uF17 (3 * x1).toNatClampNeg) (uF17 ((3 * x1) + 1).toNatClampNeg) (uF17 ((3 * x1) + 2).toNatClampNeg) uF1 uF11) fun v12 uF1_13 uF11_14 => (some (v12, uF1_13, uF7, uF11_14))) else (if (uF16 x1.toNatClampNeg) = 100 then (xb4 (f_X8_deciding fu 2 (uF17 (3 * x1).toNatClampNeg) (uF17 ((3 * x1) + 2).toNatClampNeg) uF1 uF7 uF11) fun v17 uF1_18 uF7_19 uF11_20 => (some (v17, uF1_18, uF7_19, uF11_20))) else (if (uF16 x1.toNatClampNeg) = 110 then (xb3 (f_X8_passing fu (uF17 (3 * x1).toNatClampNeg) uF1 uF11) fun v23 uF1_24 uF11_25 => (some (v23, uF1_24, uF7, uF11_25))) else (if (uF16 x1.toNatClampNeg) = 112 then (xb3 (f_X8_paying fu (uF17 (3 * x1).toNatClampNeg) (uF17 ((3 * x1) + 2).toNatClampNeg) uF1 uF11) fun v28 uF1_29 uF11_30 => (some (v28, uF1_29, uF7, uF11_30))) else (if (uF16 x1.toNatClampNeg) = 115 then (xb4 (f_X8_settling fu (uF17 (3 * x1).toNatClampNeg) (uF17 ((3 * x1) + 1).toNatClampNeg) (uF17 ((3 * x1) + 2).toNatClampNeg) uF1 uF7 uF11) fun v33 uF1_34 uF7_35 uF11_36 => (some (v33, uF1_34, uF7_35, uF11_36))) else (if (uF16 x1.toNatClampNeg) = 119 then (xb4 (f_X8_deciding fu 3 (uF17 (3 * x1).toNatClampNeg) (uF17 ((3 * x1) + 2).toNatClampNeg) uF1 uF7 uF11) fun v39 uF1_40 uF7_41 uF11_42 => (some (v39, uF1_40, uF7_41, uF11_42))) else (xb3 (f_X8_goingOn uF1 uF11) fun v44 uF1_45 uF11_46 => (some (v44, uF1_45, uF7, uF11_46)))))))))))))
set_option maxHeartbeats 4000000 in
set_option maxRecDepth 100000 in
theorem m_X8_does {l : Launch} {κ : xKt} {wA : Nat → sAcc} {wT : sTxt} {wG : sRng} {wM : sMai} {wO : sOut} {fu : Nat} {x1 : Int32} {uF0 : Int32} {uF1 : xF64} {uF2 : xF64} {uF3 : xF64} {uF4 : xF64} {uF5 : Int32} {uF6 : Int32} {uF7 : Int32} {uF8 : xF32} {uF9 : Int32} {uF10 : Int32} {uF11 : Int64} {uF12 : xF32} {uF13 : Int32} {uF14 : Int32} {uF15 : Int32} {uF16 : xF32} {uF17 : xF32} {uF18 : Int32} {rr : Int32} {yF1 : xF64} {yF7 : Int32} {yF11 : Int64} (hf : f_X8_does fu x1 uF1 uF7 uF11 uF16 uF17 = some (rr, yF1, yF7, yF11)) : xMi l κ yX8_does cX8_does 5 (some .int) (xR 4 0 0) [.ref (xAd κ 245), .int x1] (wA, wT, wG, wM, (uF0, uF1, uF2, uF3, uF4, uF5, uF6, uF7, uF8, uF9, uF10, uF11, uF12, uF13, uF14, uF15, uF16, uF17, uF18), wO) (wA, wT, wG, wM, (uF0, yF1, uF2, uF3, uF4, uF5, uF6, yF7, uF8, uF9, uF10, yF11, uF12, uF13, uF14, uF15, uF16, uF17, uF18), wO) rr := by
  unfold f_X8_does at hf
  refine xMi_of pn_X8 (Nat.le_of_ble_eq_true rfl) ⟨rfl, rfl⟩ ?_
  intro A p e s m args below meth c ls Q hc hw hl K
  have hc : xC κ A p s m args meth c cX8_does RX8 5 (some .int) := hc
  have hx := hc.1.1
  have hb := hc.1.2.1
  have hl : lv_has ls 5 [(0, .ref (xAd κ 245)), (1, .int x1)] := hl
  refine lv_aload_n hx hb dX8_does_0 rfl (lv_at hl 0 rfl) ?_
  refine x_get (v := .ref (xAd κ 253)) hc hw co_245 fX8_36 rfl dX8_does_1 ?_
  refine lv_iconst (v := 3) hx hb dX8_does_4 (by decide) ?_
  refine lv_iload_n hx hb dX8_does_5 rfl (lv_at hl 1 rfl) ?_
  refine lv_imul hx hb dX8_does_6 ?_
  obtain ⟨k1, hf⟩ := xk_of hf
  refine x_iald (n := 108) (f := uF17) hc hw co_253 k1 dX8_does_7 ?_
  refine lv_istore_n (lv' := [(2, .int (uF17 (3 * x1).toNatClampNeg)), (0, .ref (xAd κ 245)), (1, .int x1)]) hx hb dX8_does_8 rfl hl (by decide) rfl (fun ls hl => ?_)
  refine lv_aload_n hx hb dX8_does_9 rfl (lv_at hl 1 rfl) ?_
  refine x_get (v := .ref (xAd κ 253)) hc hw co_245 fX8_36 rfl dX8_does_10 ?_
  refine lv_iconst (v := 3) hx hb dX8_does_13 (by decide) ?_
  refine lv_iload_n hx hb dX8_does_14 rfl (lv_at hl 2 rfl) ?_
  refine lv_imul hx hb dX8_does_15 ?_
  refine lv_iconst (v := 1) hx hb dX8_does_16 (by decide) ?_
  refine lv_iadd hx hb dX8_does_17 ?_
  obtain ⟨k2, hf⟩ := xk_of hf
  refine x_iald (n := 108) (f := uF17) hc hw co_253 k2 dX8_does_18 ?_
  refine lv_istore_n (lv' := [(3, .int (uF17 ((3 * x1) + 1).toNatClampNeg)), (2, .int (uF17 (3 * x1).toNatClampNeg)), (0, .ref (xAd κ 245)), (1, .int x1)]) hx hb dX8_does_19 rfl hl (by decide) rfl (fun ls hl => ?_)
  refine lv_aload_n hx hb dX8_does_20 rfl (lv_at hl 2 rfl) ?_
  refine x_get (v := .ref (xAd κ 253)) hc hw co_245 fX8_36 rfl dX8_does_21 ?_
  refine lv_iconst (v := 3) hx hb dX8_does_24 (by decide) ?_
  refine lv_iload_n hx hb dX8_does_25 rfl (lv_at hl 3 rfl) ?_
  refine lv_imul hx hb dX8_does_26 ?_
  refine lv_iconst (v := 2) hx hb dX8_does_27 (by decide) ?_
  refine lv_iadd hx hb dX8_does_28 ?_
  obtain ⟨k3, hf⟩ := xk_of hf
  refine x_iald (n := 108) (f := uF17) hc hw co_253 k3 dX8_does_29 ?_
  refine lv_istore (lv' := [(4, .int (uF17 ((3 * x1) + 2).toNatClampNeg)), (3, .int (uF17 ((3 * x1) + 1).toNatClampNeg)), (2, .int (uF17 (3 * x1).toNatClampNeg)), (0, .ref (xAd κ 245)), (1, .int x1)]) hx hb dX8_does_30 hl (by decide) rfl (fun ls hl => ?_)
  refine lv_aload_n hx hb dX8_does_32 rfl (lv_at hl 3 rfl) ?_
  refine x_get (v := .ref (xAd κ 252)) hc hw co_245 fX8_33 rfl dX8_does_33 ?_
  refine lv_iload_n hx hb dX8_does_36 rfl (lv_at hl 4 rfl) ?_
  obtain ⟨k4, hf⟩ := xk_of hf
  refine x_iald (n := 36) (f := uF16) hc hw co_252 k4 dX8_does_37 ?_
  by_cases c5 : (uF16 x1.toNatClampNeg) = 97
  · have hf := xif_t c5 hf
    refine x_tabI (k := 97) (off := 115) (tgt := 153) hx hb dX8_does_38 c5 (by decide) (by decide) (by decide) ?_
    refine lv_aload_n hx hb dX8_does_153 rfl (lv_at hl 3 rfl) ?_
    refine lv_iconst (v := 1) hx hb dX8_does_154 (by decide) ?_
    refine lv_iload_n hx hb dX8_does_155 rfl (lv_at hl 2 rfl) ?_
    refine lv_iload hx hb dX8_does_156 (lv_at hl 0 rfl) ?_
    obtain ⟨v6, uF1_7, uF7_8, uF11_9, h10, hf⟩ := xb4_of hf
    refine x_calliV (As := [.int 1, .int (uF17 (3 * x1).toNatClampNeg), .int (uF17 ((3 * x1) + 2).toNatClampNeg)]) (rest := []) (σ' := (wA, wT, wG, wM, (uF0, uF1_7, uF2, uF3, uF4, uF5, uF6, uF7_8, uF8, uF9, uF10, uF11_9, uF12, uF13, uF14, uF15, uF16, uF17, uF18), wO)) hc hw hl.1 (m_X8_deciding h10) kX8_217 co_245 rfl rfl ⟨rfl, rfl⟩ ⟨Nat.le_of_ble_eq_true rfl, Nat.le_of_ble_eq_true rfl⟩ ⟨Nat.zero_le _, Nat.zero_le _⟩ (Nat.le_of_ble_eq_true rfl) dX8_does_158 (fun H locs hw => ?_)
    cases hf
    exact K _ _ _ _ dX8_does_161 rfl hw
  have hf := xif_f c5 hf
  by_cases c11 : (uF16 x1.toNatClampNeg) = 99
  · have hf := xif_t c11 hf
    refine x_tabI (k := 99) (off := 106) (tgt := 144) hx hb dX8_does_38 c11 (by decide) (by decide) (by decide) ?_
    refine lv_aload_n hx hb dX8_does_144 rfl (lv_at hl 3 rfl) ?_
    refine lv_iload_n hx hb dX8_does_145 rfl (lv_at hl 2 rfl) ?_
    refine lv_iload_n hx hb dX8_does_146 rfl (lv_at hl 1 rfl) ?_
    refine lv_iload hx hb dX8_does_147 (lv_at hl 0 rfl) ?_
    obtain ⟨v12, uF1_13, uF11_14, h15, hf⟩ := xb3_of hf
    refine x_calliV (As := [.int (uF17 (3 * x1).toNatClampNeg), .int (uF17 ((3 * x1) + 1).toNatClampNeg), .int (uF17 ((3 * x1) + 2).toNatClampNeg)]) (rest := []) (σ' := (wA, wT, wG, wM, (uF0, uF1_13, uF2, uF3, uF4, uF5, uF6, uF7, uF8, uF9, uF10, uF11_14, uF12, uF13, uF14, uF15, uF16, uF17, uF18), wO)) hc hw hl.1 (m_X8_claiming h15) kX8_210 co_245 rfl rfl ⟨rfl, rfl⟩ ⟨Nat.le_of_ble_eq_true rfl, Nat.le_of_ble_eq_true rfl⟩ ⟨Nat.zero_le _, Nat.zero_le _⟩ (Nat.le_of_ble_eq_true rfl) dX8_does_149 (fun H locs hw => ?_)
    cases hf
    exact K _ _ _ _ dX8_does_152 rfl hw
  have hf := xif_f c11 hf
  by_cases c16 : (uF16 x1.toNatClampNeg) = 100
  · have hf := xif_t c16 hf
    refine x_tabI (k := 100) (off := 124) (tgt := 162) hx hb dX8_does_38 c16 (by decide) (by decide) (by decide) ?_
    refine lv_aload_n hx hb dX8_does_162 rfl (lv_at hl 3 rfl) ?_
    refine lv_iconst (v := 2) hx hb dX8_does_163 (by decide) ?_
    refine lv_iload_n hx hb dX8_does_164 rfl (lv_at hl 2 rfl) ?_
    refine lv_iload hx hb dX8_does_165 (lv_at hl 0 rfl) ?_
    obtain ⟨v17, uF1_18, uF7_19, uF11_20, h21, hf⟩ := xb4_of hf
    refine x_calliV (As := [.int 2, .int (uF17 (3 * x1).toNatClampNeg), .int (uF17 ((3 * x1) + 2).toNatClampNeg)]) (rest := []) (σ' := (wA, wT, wG, wM, (uF0, uF1_18, uF2, uF3, uF4, uF5, uF6, uF7_19, uF8, uF9, uF10, uF11_20, uF12, uF13, uF14, uF15, uF16, uF17, uF18), wO)) hc hw hl.1 (m_X8_deciding h21) kX8_217 co_245 rfl rfl ⟨rfl, rfl⟩ ⟨Nat.le_of_ble_eq_true rfl, Nat.le_of_ble_eq_true rfl⟩ ⟨Nat.zero_le _, Nat.zero_le _⟩ (Nat.le_of_ble_eq_true rfl) dX8_does_167 (fun H locs hw => ?_)
    cases hf
    exact K _ _ _ _ dX8_does_170 rfl hw
  have hf := xif_f c16 hf
  by_cases c22 : (uF16 x1.toNatClampNeg) = 110
  · have hf := xif_t c22 hf
    refine x_tabI (k := 110) (off := 159) (tgt := 197) hx hb dX8_does_38 c22 (by decide) (by decide) (by decide) ?_
    refine lv_aload_n hx hb dX8_does_197 rfl (lv_at hl 3 rfl) ?_
    refine lv_iload_n hx hb dX8_does_198 rfl (lv_at hl 2 rfl) ?_
    obtain ⟨v23, uF1_24, uF11_25, h26, hf⟩ := xb3_of hf
    refine x_calliV (As := [.int (uF17 (3 * x1).toNatClampNeg)]) (rest := []) (σ' := (wA, wT, wG, wM, (uF0, uF1_24, uF2, uF3, uF4, uF5, uF6, uF7, uF8, uF9, uF10, uF11_25, uF12, uF13, uF14, uF15, uF16, uF17, uF18), wO)) hc hw hl.1 (m_X8_passing h26) kX8_247 co_245 rfl rfl ⟨rfl, rfl⟩ ⟨Nat.le_of_ble_eq_true rfl, Nat.le_of_ble_eq_true rfl⟩ ⟨Nat.zero_le _, Nat.zero_le _⟩ (Nat.le_of_ble_eq_true rfl) dX8_does_199 (fun H locs hw => ?_)
    cases hf
    exact K _ _ _ _ dX8_does_202 rfl hw
  have hf := xif_f c22 hf
  by_cases c27 : (uF16 x1.toNatClampNeg) = 112
  · have hf := xif_t c27 hf
    refine x_tabI (k := 112) (off := 142) (tgt := 180) hx hb dX8_does_38 c27 (by decide) (by decide) (by decide) ?_
    refine lv_aload_n hx hb dX8_does_180 rfl (lv_at hl 3 rfl) ?_
    refine lv_iload_n hx hb dX8_does_181 rfl (lv_at hl 2 rfl) ?_
    refine lv_iload hx hb dX8_does_182 (lv_at hl 0 rfl) ?_
    obtain ⟨v28, uF1_29, uF11_30, h31, hf⟩ := xb3_of hf
    refine x_calliV (As := [.int (uF17 (3 * x1).toNatClampNeg), .int (uF17 ((3 * x1) + 2).toNatClampNeg)]) (rest := []) (σ' := (wA, wT, wG, wM, (uF0, uF1_29, uF2, uF3, uF4, uF5, uF6, uF7, uF8, uF9, uF10, uF11_30, uF12, uF13, uF14, uF15, uF16, uF17, uF18), wO)) hc hw hl.1 (m_X8_paying h31) kX8_224 co_245 rfl rfl ⟨rfl, rfl⟩ ⟨Nat.le_of_ble_eq_true rfl, Nat.le_of_ble_eq_true rfl⟩ ⟨Nat.zero_le _, Nat.zero_le _⟩ (Nat.le_of_ble_eq_true rfl) dX8_does_184 (fun H locs hw => ?_)
    cases hf
    exact K _ _ _ _ dX8_does_187 rfl hw
  have hf := xif_f c27 hf
  by_cases c32 : (uF16 x1.toNatClampNeg) = 115
  · have hf := xif_t c32 hf
    refine x_tabI (k := 115) (off := 150) (tgt := 188) hx hb dX8_does_38 c32 (by decide) (by decide) (by decide) ?_
    refine lv_aload_n hx hb dX8_does_188 rfl (lv_at hl 3 rfl) ?_
    refine lv_iload_n hx hb dX8_does_189 rfl (lv_at hl 2 rfl) ?_
    refine lv_iload_n hx hb dX8_does_190 rfl (lv_at hl 1 rfl) ?_
    refine lv_iload hx hb dX8_does_191 (lv_at hl 0 rfl) ?_
    obtain ⟨v33, uF1_34, uF7_35, uF11_36, h37, hf⟩ := xb4_of hf
    refine x_calliV (As := [.int (uF17 (3 * x1).toNatClampNeg), .int (uF17 ((3 * x1) + 1).toNatClampNeg), .int (uF17 ((3 * x1) + 2).toNatClampNeg)]) (rest := []) (σ' := (wA, wT, wG, wM, (uF0, uF1_34, uF2, uF3, uF4, uF5, uF6, uF7_35, uF8, uF9, uF10, uF11_36, uF12, uF13, uF14, uF15, uF16, uF17, uF18), wO)) hc hw hl.1 (m_X8_settling h37) kX8_230 co_245 rfl rfl ⟨rfl, rfl⟩ ⟨Nat.le_of_ble_eq_true rfl, Nat.le_of_ble_eq_true rfl⟩ ⟨Nat.zero_le _, Nat.zero_le _⟩ (Nat.le_of_ble_eq_true rfl) dX8_does_193 (fun H locs hw => ?_)
    cases hf
    exact K _ _ _ _ dX8_does_196 rfl hw
  have hf := xif_f c32 hf
  by_cases c38 : (uF16 x1.toNatClampNeg) = 119
  · have hf := xif_t c38 hf
    refine x_tabI (k := 119) (off := 133) (tgt := 171) hx hb dX8_does_38 c38 (by decide) (by decide) (by decide) ?_
    refine lv_aload_n hx hb dX8_does_171 rfl (lv_at hl 3 rfl) ?_
    refine lv_iconst (v := 3) hx hb dX8_does_172 (by decide) ?_
    refine lv_iload_n hx hb dX8_does_173 rfl (lv_at hl 2 rfl) ?_
    refine lv_iload hx hb dX8_does_174 (lv_at hl 0 rfl) ?_
    obtain ⟨v39, uF1_40, uF7_41, uF11_42, h43, hf⟩ := xb4_of hf
    refine x_calliV (As := [.int 3, .int (uF17 (3 * x1).toNatClampNeg), .int (uF17 ((3 * x1) + 2).toNatClampNeg)]) (rest := []) (σ' := (wA, wT, wG, wM, (uF0, uF1_40, uF2, uF3, uF4, uF5, uF6, uF7_41, uF8, uF9, uF10, uF11_42, uF12, uF13, uF14, uF15, uF16, uF17, uF18), wO)) hc hw hl.1 (m_X8_deciding h43) kX8_217 co_245 rfl rfl ⟨rfl, rfl⟩ ⟨Nat.le_of_ble_eq_true rfl, Nat.le_of_ble_eq_true rfl⟩ ⟨Nat.zero_le _, Nat.zero_le _⟩ (Nat.le_of_ble_eq_true rfl) dX8_does_176 (fun H locs hw => ?_)
    cases hf
    exact K _ _ _ _ dX8_does_179 rfl hw
  have hf := xif_f c38 hf
  have c5 := x_neT (z := 97) c5 (by decide)
  have c11 := x_neT (z := 99) c11 (by decide)
  have c16 := x_neT (z := 100) c16 (by decide)
  have c22 := x_neT (z := 110) c22 (by decide)
  have c27 := x_neT (z := 112) c27 (by decide)
  have c32 := x_neT (z := 115) c32 (by decide)
  have c38 := x_neT (z := 119) c38 (by decide)
  refine x_tabD (tgt := 203) hx hb dX8_does_38 ?_ (by decide) ?_
  · by_cases q1 : (uF16 x1.toNatClampNeg).toInt < 97
    · exact Or.inl q1
    by_cases q2 : 119 < (uF16 x1.toNatClampNeg).toInt
    · exact Or.inr (Or.inl q2)
    have q3 : (uF16 x1.toNatClampNeg).toInt = 98 ∨ (uF16 x1.toNatClampNeg).toInt = 101 ∨ (uF16 x1.toNatClampNeg).toInt = 102 ∨ (uF16 x1.toNatClampNeg).toInt = 103 ∨ (uF16 x1.toNatClampNeg).toInt = 104 ∨ (uF16 x1.toNatClampNeg).toInt = 105 ∨ (uF16 x1.toNatClampNeg).toInt = 106 ∨ (uF16 x1.toNatClampNeg).toInt = 107 ∨ (uF16 x1.toNatClampNeg).toInt = 108 ∨ (uF16 x1.toNatClampNeg).toInt = 109 ∨ (uF16 x1.toNatClampNeg).toInt = 111 ∨ (uF16 x1.toNatClampNeg).toInt = 113 ∨ (uF16 x1.toNatClampNeg).toInt = 114 ∨ (uF16 x1.toNatClampNeg).toInt = 116 ∨ (uF16 x1.toNatClampNeg).toInt = 117 ∨ (uF16 x1.toNatClampNeg).toInt = 118 := by omega
    refine Or.inr (Or.inr ?_)
    rcases q3 with q3 | q3 | q3 | q3 | q3 | q3 | q3 | q3 | q3 | q3 | q3 | q3 | q3 | q3 | q3 | q3 <;> (rw [q3]; decide)
  refine lv_aload_n hx hb dX8_does_203 rfl (lv_at hl 3 rfl) ?_
  obtain ⟨v44, uF1_45, uF11_46, h47, hf⟩ := xb3_of hf
  refine x_calliV (As := []) (rest := []) (σ' := (wA, wT, wG, wM, (uF0, uF1_45, uF2, uF3, uF4, uF5, uF6, uF7, uF8, uF9, uF10, uF11_46, uF12, uF13, uF14, uF15, uF16, uF17, uF18), wO)) hc hw hl.1 (m_X8_goingOn h47) kX8_250 co_245 rfl rfl ⟨rfl, rfl⟩ ⟨Nat.le_of_ble_eq_true rfl, Nat.le_of_ble_eq_true rfl⟩ ⟨Nat.zero_le _, Nat.zero_le _⟩ (Nat.le_of_ble_eq_true rfl) dX8_does_204 (fun H locs hw => ?_)
  cases hf
  exact K _ _ _ _ dX8_does_207 rfl hw
def f_X8_read_50 (fu : Nat) (uF8 : xF32) : Nat → (Int32) → (Int32) → (xF64) → (xF64) → (xF64) → (Int32) → (Int32) → (Int32) → (Int32) → (Int64) → (Int32) → (Int32) → (Int32) → (xF32) → (xF32) → (Int32) → Option (Int32 × Int32 × xF64 × xF64 × xF64 × Int32 × Int32 × Int32 × Int32 × Int64 × Int32 × Int32 × Int32 × xF32 × xF32 × Int32)
  | 0, _, _, _, _, _, _, _, _, _, _, _, _, _, _, _, _ => none
  | n + 1, x2, uF0, uF1, uF3, uF4, uF5, uF7, uF9, uF10, uF11, uF13, uF14, uF15, uF16, uF17, uF18 => if 304 ≤ x2 then (xb2 (f_X8_fails 2 uF0) fun v24 uF0_25 => (some (v24, uF0_25, uF1, uF3, uF4, uF5, uF7, uF9, uF10, uF11, uF13, uF14, uF15, uF16, uF17, uF18))) else (xk (xin x2 304) (xk (xin x2 304) (f_X8_read_50 fu uF8 n (x2 + 1) uF0 (vp_updL uF1 x2.toNatClampNeg (uF3 x2.toNatClampNeg)) uF3 uF4 uF5 uF7 uF9 uF10 uF11 uF13 uF14 uF15 uF16 uF17 uF18)))
def f_X8_read_32 (fu : Nat) (uF8 : xF32) : Nat → (Int32) → (Int32) → (xF64) → (xF64) → (xF64) → (Int32) → (Int32) → (Int32) → (Int32) → (Int64) → (Int32) → (Int32) → (Int32) → (xF32) → (xF32) → (Int32) → Option (Int32 × Int32 × xF64 × xF64 × xF64 × Int32 × Int32 × Int32 × Int32 × Int64 × Int32 × Int32 × Int32 × xF32 × xF32 × Int32)
  | 0, _, _, _, _, _, _, _, _, _, _, _, _, _, _, _, _ => none
  | n + 1, x1, uF0, uF1, uF3, uF4, uF5, uF7, uF9, uF10, uF11, uF13, uF14, uF15, uF16, uF17, uF18 => if uF18 ≤ x1 then (xb2 (f_X8_keeps fu uF3 uF4 uF5) fun uF4_14 uF5_15 => (some (uF18, uF0, uF1, uF3, uF4_14, uF5_15, uF7, uF9, uF10, uF11, uF13, uF14, uF15, uF16, uF17, uF18))) else (xb4 (f_X8_does fu x1 uF1 uF7 uF11 uF16 uF17) fun v17 uF1_18 uF7_19 uF11_20 => (if v17 ≤ 0 then (f_X8_read_32 fu uF8 n (x1 + 1) uF0 uF1_18 uF3 uF4 uF5 uF7_19 uF9 uF10 uF11_20 uF13 uF14 uF15 uF16 uF17 uF18) else (f_X8_read_50 fu uF8 fu 0 uF0 uF1_18 uF3 uF4 uF5 uF7_19 uF9 uF10 uF11_20 uF13 uF14 uF15 uF16 uF17 uF18)))
def f_X8_read (fu : Nat) (uF0 : Int32) (uF1 : xF64) (uF3 : xF64) (uF4 : xF64) (uF5 : Int32) (uF7 : Int32) (uF8 : xF32) (uF9 : Int32) (uF10 : Int32) (uF11 : Int64) (uF13 : Int32) (uF14 : Int32) (uF15 : Int32) (uF16 : xF32) (uF17 : xF32) (uF18 : Int32) : Option (Int32 × Int32 × xF64 × xF64 × xF64 × Int32 × Int32 × Int32 × Int32 × Int64 × Int32 × Int32 × Int32 × xF32 × xF32 × Int32) :=
  xb1 (f_X8_remembers fu uF1 uF3) fun uF3_1 => (xb8 (f_X8_readsText fu uF8 uF9 uF13 uF14 uF15 uF16 uF17 uF18) fun v3 uF9_4 uF13_5 uF14_6 uF15_7 uF16_8 uF17_9 uF18_10 => (if v3 = 0 then (xb2 (f_X8_fails 1 0) fun v29 uF0_30 => (some (v29, uF0_30, uF1, uF3_1, uF4, uF5, uF7, uF9_4, uF13_5, uF11, uF13_5, uF14_6, uF15_7, uF16_8, uF17_9, uF18_10))) else (f_X8_read_32 fu uF8 fu 0 0 uF1 uF3_1 uF4 uF5 uF7 uF9_4 uF10 uF11 uF13_5 uF14_6 uF15_7 uF16_8 uF17_9 uF18_10)))
set_option maxHeartbeats 4000000 in
set_option maxRecDepth 100000 in
theorem l_X8_read_50 {l : Launch} {κ : xKt} {wA : Nat → sAcc} {wT : sTxt} {wG : sRng} {wM : sMai} {wO : sOut} {fu : Nat} {uF2 : xF64} {uF6 : Int32} {uF8 : xF32} {uF12 : xF32} {A : Nat → Prop} {p : Program} {e : Env} {s : State} {m : MethodId} {args : Array Value} {below : List Frame} {meth : Method} {c : Code} {Q : State → Prop} {rr : Int32} {yF0 : Int32} {yF1 : xF64} {yF3 : xF64} {yF4 : xF64} {yF5 : Int32} {yF7 : Int32} {yF9 : Int32} {yF10 : Int32} {yF11 : Int64} {yF13 : Int32} {yF14 : Int32} {yF15 : Int32} {yF16 : xF32} {yF17 : xF32} {yF18 : Int32}
    (hc : xC κ A p s m args meth c cX8_read RX8 3 (some .int))
    (K : ∀ (pc : Nat) (ls : Array Slot) (H : Heap) (locs : List Loc), decode cX8_read pc = .ok (.ireturn, 1) → narrow .int (.int rr) = .int rr → xW κ A s (wA, wT, wG, wM, (yF0, yF1, uF2, yF3, yF4, yF5, uF6, yF7, uF8, yF9, yF10, yF11, uF12, yF13, yF14, yF15, yF16, yF17, yF18), wO) H locs → W p l e (xR 5 0 0) s m args below meth c H locs 0 0 Q (F0 m pc ls [.int rr])) :
    ∀ (n : Nat) (x2 : Int32) (uF0 : Int32) (uF1 : xF64) (uF3 : xF64) (uF4 : xF64) (uF5 : Int32) (uF7 : Int32) (uF9 : Int32) (uF10 : Int32) (uF11 : Int64) (uF13 : Int32) (uF14 : Int32) (uF15 : Int32) (uF16 : xF32) (uF17 : xF32) (uF18 : Int32) (H : Heap) (locs : List Loc) (ls : Array Slot), f_X8_read_50 fu uF8 n x2 uF0 uF1 uF3 uF4 uF5 uF7 uF9 uF10 uF11 uF13 uF14 uF15 uF16 uF17 uF18 = some (rr, yF0, yF1, yF3, yF4, yF5, yF7, yF9, yF10, yF11, yF13, yF14, yF15, yF16, yF17, yF18) → xW κ A s (wA, wT, wG, wM, (uF0, uF1, uF2, uF3, uF4, uF5, uF6, uF7, uF8, uF9, uF10, uF11, uF12, uF13, uF14, uF15, uF16, uF17, uF18), wO) H locs → lv_has ls 3 [(0, .ref (xAd κ 245)), (2, .int x2)] → W p l e (xR 5 0 0) s m args below meth c H locs 0 0 Q (F0 m 50 ls []) := by
  have hx := hc.1.1
  have hb := hc.1.2.1
  intro n
  induction n with
  | zero =>
    intro x2 uF0 uF1 uF3 uF4 uF5 uF7 uF9 uF10 uF11 uF13 uF14 uF15 uF16 uF17 uF18 H locs ls hf
    rw [f_X8_read_50] at hf
    cases hf
  | succ n hi =>
    intro x2 uF0 uF1 uF3 uF4 uF5 uF7 uF9 uF10 uF11 uF13 uF14 uF15 uF16 uF17 uF18 H locs ls hf hw hl
    rw [f_X8_read_50] at hf
    refine lv_iload_n hx hb dX8_read_50 rfl (lv_at hl 1 rfl) ?_
    refine lv_sipush (v := 304) hx hb dX8_read_51 (by decide) ?_
    refine lv_icmp_ge (tgt := 75) hx hb dX8_read_54 (by decide) (fun c23 => ?_) (fun c23 => ?_)
    · have hf := xif_t c23 hf
      refine lv_aload_n hx hb dX8_read_75 rfl (lv_at hl 0 rfl) ?_
      refine lv_iconst (v := 2) hx hb dX8_read_76 (by decide) ?_
      obtain ⟨v24, uF0_25, h26, hf⟩ := xb2_of hf
      refine x_calliV (As := [.int 2]) (rest := []) (σ' := (wA, wT, wG, wM, (uF0_25, uF1, uF2, uF3, uF4, uF5, uF6, uF7, uF8, uF9, uF10, uF11, uF12, uF13, uF14, uF15, uF16, uF17, uF18), wO)) hc hw hl.1 (m_X8_fails h26) kX8_79 co_245 rfl rfl ⟨rfl, rfl⟩ ⟨Nat.le_of_ble_eq_true rfl, Nat.le_of_ble_eq_true rfl⟩ ⟨Nat.zero_le _, Nat.zero_le _⟩ (Nat.le_of_ble_eq_true rfl) dX8_read_77 (fun H locs hw => ?_)
      cases hf
      exact K _ _ _ _ dX8_read_80 rfl hw
    · have hf := xif_f c23 hf
      refine lv_aload_n hx hb dX8_read_57 rfl (lv_at hl 0 rfl) ?_
      refine x_get (v := .ref (xAd κ 246)) hc hw co_245 fX8_7 rfl dX8_read_58 ?_
      refine lv_iload_n hx hb dX8_read_61 rfl (lv_at hl 1 rfl) ?_
      refine lv_aload_n hx hb dX8_read_62 rfl (lv_at hl 0 rfl) ?_
      refine x_get (v := .ref (xAd κ 248)) hc hw co_245 fX8_16 rfl dX8_read_63 ?_
      refine lv_iload_n hx hb dX8_read_66 rfl (lv_at hl 1 rfl) ?_
      obtain ⟨k27, hf⟩ := xk_of hf
      refine x_lald (n := 304) (f := uF3) hc hw co_248 k27 dX8_read_67 ?_
      obtain ⟨k28, hf⟩ := xk_of hf
      refine x_last (n := 304) (f := uF1) (σ' := (wA, wT, wG, wM, (uF0, (vp_updL uF1 x2.toNatClampNeg (uF3 x2.toNatClampNeg)), uF2, uF3, uF4, uF5, uF6, uF7, uF8, uF9, uF10, uF11, uF12, uF13, uF14, uF15, uF16, uF17, uF18), wO)) hc hw co_246 k28 so_F_1 dX8_read_68 (fun H locs hw => ?_)
      refine lv_iinc (v := (x2 + 1)) (lv' := [(2, .int (x2 + 1)), (0, .ref (xAd κ 245))]) hx hb dX8_read_69 hl (k := 1) rfl rfl (by decide) rfl (fun ls hl => ?_)
      refine lv_goto (tgt := 50) hx hb dX8_read_72 (by decide) ?_
      exact hi _ _ _ _ _ _ _ _ _ _ _ _ _ _ _ _ _ _ _ hf hw (lv_sub hl [1, 0] rfl)
set_option maxHeartbeats 4000000 in
set_option maxRecDepth 100000 in
theorem l_X8_read_32 {l : Launch} {κ : xKt} {wA : Nat → sAcc} {wT : sTxt} {wG : sRng} {wM : sMai} {wO : sOut} {fu : Nat} {uF2 : xF64} {uF6 : Int32} {uF8 : xF32} {uF12 : xF32} {A : Nat → Prop} {p : Program} {e : Env} {s : State} {m : MethodId} {args : Array Value} {below : List Frame} {meth : Method} {c : Code} {Q : State → Prop} {rr : Int32} {yF0 : Int32} {yF1 : xF64} {yF3 : xF64} {yF4 : xF64} {yF5 : Int32} {yF7 : Int32} {yF9 : Int32} {yF10 : Int32} {yF11 : Int64} {yF13 : Int32} {yF14 : Int32} {yF15 : Int32} {yF16 : xF32} {yF17 : xF32} {yF18 : Int32}
    (hc : xC κ A p s m args meth c cX8_read RX8 3 (some .int))
    (K : ∀ (pc : Nat) (ls : Array Slot) (H : Heap) (locs : List Loc), decode cX8_read pc = .ok (.ireturn, 1) → narrow .int (.int rr) = .int rr → xW κ A s (wA, wT, wG, wM, (yF0, yF1, uF2, yF3, yF4, yF5, uF6, yF7, uF8, yF9, yF10, yF11, uF12, yF13, yF14, yF15, yF16, yF17, yF18), wO) H locs → W p l e (xR 5 0 0) s m args below meth c H locs 0 0 Q (F0 m pc ls [.int rr])) :
    ∀ (n : Nat) (x1 : Int32) (uF0 : Int32) (uF1 : xF64) (uF3 : xF64) (uF4 : xF64) (uF5 : Int32) (uF7 : Int32) (uF9 : Int32) (uF10 : Int32) (uF11 : Int64) (uF13 : Int32) (uF14 : Int32) (uF15 : Int32) (uF16 : xF32) (uF17 : xF32) (uF18 : Int32) (H : Heap) (locs : List Loc) (ls : Array Slot), f_X8_read_32 fu uF8 n x1 uF0 uF1 uF3 uF4 uF5 uF7 uF9 uF10 uF11 uF13 uF14 uF15 uF16 uF17 uF18 = some (rr, yF0, yF1, yF3, yF4, yF5, yF7, yF9, yF10, yF11, yF13, yF14, yF15, yF16, yF17, yF18) → xW κ A s (wA, wT, wG, wM, (uF0, uF1, uF2, uF3, uF4, uF5, uF6, uF7, uF8, uF9, uF10, uF11, uF12, uF13, uF14, uF15, uF16, uF17, uF18), wO) H locs → lv_has ls 3 [(0, .ref (xAd κ 245)), (1, .int x1)] → W p l e (xR 5 0 0) s m args below meth c H locs 0 0 Q (F0 m 32 ls []) := by
  have hx := hc.1.1
  have hb := hc.1.2.1
  intro n
  induction n with
  | zero =>
    intro x1 uF0 uF1 uF3 uF4 uF5 uF7 uF9 uF10 uF11 uF13 uF14 uF15 uF16 uF17 uF18 H locs ls hf
    rw [f_X8_read_32] at hf
    cases hf
  | succ n hi =>
    intro x1 uF0 uF1 uF3 uF4 uF5 uF7 uF9 uF10 uF11 uF13 uF14 uF15 uF16 uF17 uF18 H locs ls hf hw hl
    rw [f_X8_read_32] at hf
    refine lv_iload_n hx hb dX8_read_32 rfl (lv_at hl 1 rfl) ?_
    refine lv_aload_n hx hb dX8_read_33 rfl (lv_at hl 0 rfl) ?_
    refine x_get (v := .int uF18) hc hw co_245 fX8_278 rfl dX8_read_34 ?_
    refine lv_icmp_ge (tgt := 87) hx hb dX8_read_37 (by decide) (fun c13 => ?_) (fun c13 => ?_)
    · have hf := xif_t c13 hf
      refine lv_aload_n hx hb dX8_read_87 rfl (lv_at hl 0 rfl) ?_
      obtain ⟨uF4_14, uF5_15, h16, hf⟩ := xb2_of hf
      refine x_callvV (As := []) (rest := []) (σ' := (wA, wT, wG, wM, (uF0, uF1, uF2, uF3, uF4_14, uF5_15, uF6, uF7, uF8, uF9, uF10, uF11, uF12, uF13, uF14, uF15, uF16, uF17, uF18), wO)) hc hw hl.1 (m_X8_keeps h16) kX8_83 co_245 rfl rfl ⟨rfl, rfl⟩ ⟨Nat.le_of_ble_eq_true rfl, Nat.le_of_ble_eq_true rfl⟩ ⟨Nat.zero_le _, Nat.zero_le _⟩ (Nat.le_of_ble_eq_true rfl) dX8_read_88 (fun H locs hw => ?_)
      refine lv_aload_n hx hb dX8_read_91 rfl (lv_at hl 0 rfl) ?_
      refine x_get (v := .int uF18) hc hw co_245 fX8_278 rfl dX8_read_92 ?_
      cases hf
      exact K _ _ _ _ dX8_read_95 rfl hw
    · have hf := xif_f c13 hf
      refine lv_aload_n hx hb dX8_read_40 rfl (lv_at hl 0 rfl) ?_
      refine lv_iload_n hx hb dX8_read_41 rfl (lv_at hl 1 rfl) ?_
      obtain ⟨v17, uF1_18, uF7_19, uF11_20, h21, hf⟩ := xb4_of hf
      refine x_calliV (As := [.int x1]) (rest := []) (σ' := (wA, wT, wG, wM, (uF0, uF1_18, uF2, uF3, uF4, uF5, uF6, uF7_19, uF8, uF9, uF10, uF11_20, uF12, uF13, uF14, uF15, uF16, uF17, uF18), wO)) hc hw hl.1 (m_X8_does h21) kX8_295 co_245 rfl rfl ⟨rfl, rfl⟩ ⟨Nat.le_of_ble_eq_true rfl, Nat.le_of_ble_eq_true rfl⟩ ⟨Nat.zero_le _, Nat.zero_le _⟩ (Nat.le_of_ble_eq_true rfl) dX8_read_42 (fun H locs hw => ?_)
      refine lv_if_le (tgt := 81) hx hb dX8_read_45 (by decide) (fun c22 => ?_) (fun c22 => ?_)
      · have hf := xif_t c22 hf
        refine lv_iinc (v := (x1 + 1)) (lv' := [(1, .int (x1 + 1)), (0, .ref (xAd κ 245))]) hx hb dX8_read_81 hl (k := 1) rfl rfl (by decide) rfl (fun ls hl => ?_)
        refine lv_goto (tgt := 32) hx hb dX8_read_84 (by decide) ?_
        exact hi _ _ _ _ _ _ _ _ _ _ _ _ _ _ _ _ _ _ _ hf hw (lv_sub hl [1, 0] rfl)
      · have hf := xif_f c22 hf
        refine lv_iconst (v := 0) hx hb dX8_read_48 (by decide) ?_
        refine lv_istore_n (lv' := [(2, .int 0), (0, .ref (xAd κ 245)), (1, .int x1)]) hx hb dX8_read_49 rfl hl (by decide) rfl (fun ls hl => ?_)
        exact l_X8_read_50 hc K fu _ _ _ _ _ _ _ _ _ _ _ _ _ _ _ _ _ _ _ hf hw (lv_sub hl [1, 0] rfl)
set_option maxHeartbeats 4000000 in
set_option maxRecDepth 100000 in
theorem m_X8_read {l : Launch} {κ : xKt} {wA : Nat → sAcc} {wT : sTxt} {wG : sRng} {wM : sMai} {wO : sOut} {fu : Nat} {uF0 : Int32} {uF1 : xF64} {uF2 : xF64} {uF3 : xF64} {uF4 : xF64} {uF5 : Int32} {uF6 : Int32} {uF7 : Int32} {uF8 : xF32} {uF9 : Int32} {uF10 : Int32} {uF11 : Int64} {uF12 : xF32} {uF13 : Int32} {uF14 : Int32} {uF15 : Int32} {uF16 : xF32} {uF17 : xF32} {uF18 : Int32} {rr : Int32} {yF0 : Int32} {yF1 : xF64} {yF3 : xF64} {yF4 : xF64} {yF5 : Int32} {yF7 : Int32} {yF9 : Int32} {yF10 : Int32} {yF11 : Int64} {yF13 : Int32} {yF14 : Int32} {yF15 : Int32} {yF16 : xF32} {yF17 : xF32} {yF18 : Int32} (hf : f_X8_read fu uF0 uF1 uF3 uF4 uF5 uF7 uF8 uF9 uF10 uF11 uF13 uF14 uF15 uF16 uF17 uF18 = some (rr, yF0, yF1, yF3, yF4, yF5, yF7, yF9, yF10, yF11, yF13, yF14, yF15, yF16, yF17, yF18)) : xMi l κ yX8_read cX8_read 3 (some .int) (xR 5 0 0) [.ref (xAd κ 245)] (wA, wT, wG, wM, (uF0, uF1, uF2, uF3, uF4, uF5, uF6, uF7, uF8, uF9, uF10, uF11, uF12, uF13, uF14, uF15, uF16, uF17, uF18), wO) (wA, wT, wG, wM, (yF0, yF1, uF2, yF3, yF4, yF5, uF6, yF7, uF8, yF9, yF10, yF11, uF12, yF13, yF14, yF15, yF16, yF17, yF18), wO) rr := by
  unfold f_X8_read at hf
  refine xMi_of pn_X8 (Nat.le_of_ble_eq_true rfl) ⟨rfl, rfl⟩ ?_
  intro A p e s m args below meth c ls Q hc hw hl K
  have hc : xC κ A p s m args meth c cX8_read RX8 3 (some .int) := hc
  have hx := hc.1.1
  have hb := hc.1.2.1
  have hl : lv_has ls 3 [(0, .ref (xAd κ 245))] := hl
  refine lv_aload_n hx hb dX8_read_0 rfl (lv_at hl 0 rfl) ?_
  refine lv_iconst (v := 0) hx hb dX8_read_1 (by decide) ?_
  refine x_put (σ' := (wA, wT, wG, wM, (0, uF1, uF2, uF3, uF4, uF5, uF6, uF7, uF8, uF9, uF10, uF11, uF12, uF13, uF14, uF15, uF16, uF17, uF18), wO)) hc hw co_245 fX8_42 rfl rfl (Nat.le_of_ble_eq_true rfl) so_F_0 dX8_read_2 (fun H locs hw => ?_)
  refine lv_aload_n hx hb dX8_read_5 rfl (lv_at hl 0 rfl) ?_
  obtain ⟨uF3_1, h2, hf⟩ := xb1_of hf
  refine x_callvV (As := []) (rest := []) (σ' := (wA, wT, wG, wM, (0, uF1, uF2, uF3_1, uF4, uF5, uF6, uF7, uF8, uF9, uF10, uF11, uF12, uF13, uF14, uF15, uF16, uF17, uF18), wO)) hc hw hl.1 (m_X8_remembers h2) kX8_76 co_245 rfl rfl ⟨rfl, rfl⟩ ⟨Nat.le_of_ble_eq_true rfl, Nat.le_of_ble_eq_true rfl⟩ ⟨Nat.zero_le _, Nat.zero_le _⟩ (Nat.le_of_ble_eq_true rfl) dX8_read_6 (fun H locs hw => ?_)
  refine lv_aload_n hx hb dX8_read_9 rfl (lv_at hl 0 rfl) ?_
  obtain ⟨v3, uF9_4, uF13_5, uF14_6, uF15_7, uF16_8, uF17_9, uF18_10, h11, hf⟩ := xb8_of hf
  refine x_calliV (As := []) (rest := []) (σ' := (wA, wT, wG, wM, (0, uF1, uF2, uF3_1, uF4, uF5, uF6, uF7, uF8, uF9_4, uF10, uF11, uF12, uF13_5, uF14_6, uF15_7, uF16_8, uF17_9, uF18_10), wO)) hc hw hl.1 (m_X8_readsText h11) kX8_291 co_245 rfl rfl ⟨rfl, rfl⟩ ⟨Nat.le_of_ble_eq_true rfl, Nat.le_of_ble_eq_true rfl⟩ ⟨Nat.zero_le _, Nat.zero_le _⟩ (Nat.le_of_ble_eq_true rfl) dX8_read_10 (fun H locs hw => ?_)
  refine lv_if_ne (tgt := 30) hx hb dX8_read_13 (by decide) (fun c12 => ?_) (fun c12 => ?_)
  · have hf := xif_f c12 hf
    refine lv_iconst (v := 0) hx hb dX8_read_30 (by decide) ?_
    refine lv_istore_n (lv' := [(1, .int 0), (0, .ref (xAd κ 245))]) hx hb dX8_read_31 rfl hl (by decide) rfl (fun ls hl => ?_)
    exact l_X8_read_32 hc K fu _ _ _ _ _ _ _ _ _ _ _ _ _ _ _ _ _ _ _ hf hw (lv_sub hl [1, 0] rfl)
  · have hf := xif_t c12 hf
    refine lv_aload_n hx hb dX8_read_16 rfl (lv_at hl 0 rfl) ?_
    refine lv_aload_n hx hb dX8_read_17 rfl (lv_at hl 0 rfl) ?_
    refine x_get (v := .int uF13_5) hc hw co_245 fX8_265 rfl dX8_read_18 ?_
    refine x_put (σ' := (wA, wT, wG, wM, (0, uF1, uF2, uF3_1, uF4, uF5, uF6, uF7, uF8, uF9_4, uF13_5, uF11, uF12, uF13_5, uF14_6, uF15_7, uF16_8, uF17_9, uF18_10), wO)) hc hw co_245 fX8_26 rfl rfl (Nat.le_of_ble_eq_true rfl) so_F_10 dX8_read_21 (fun H locs hw => ?_)
    refine lv_aload_n hx hb dX8_read_24 rfl (lv_at hl 0 rfl) ?_
    refine lv_iconst (v := 1) hx hb dX8_read_25 (by decide) ?_
    obtain ⟨v29, uF0_30, h31, hf⟩ := xb2_of hf
    refine x_calliV (As := [.int 1]) (rest := []) (σ' := (wA, wT, wG, wM, (uF0_30, uF1, uF2, uF3_1, uF4, uF5, uF6, uF7, uF8, uF9_4, uF13_5, uF11, uF12, uF13_5, uF14_6, uF15_7, uF16_8, uF17_9, uF18_10), wO)) hc hw hl.1 (m_X8_fails h31) kX8_79 co_245 rfl rfl ⟨rfl, rfl⟩ ⟨Nat.le_of_ble_eq_true rfl, Nat.le_of_ble_eq_true rfl⟩ ⟨Nat.zero_le _, Nat.zero_le _⟩ (Nat.le_of_ble_eq_true rfl) dX8_read_26 (fun H locs hw => ?_)
    cases hf
    exact K _ _ _ _ dX8_read_29 rfl hw
def f_X8_errorPosition (uF0 : Int32) (uF10 : Int32) : Option (Int32 × Int32) :=
  if uF10 = (-1) then (xb2 (f_X8_fails 1 0) fun v2 uF0_3 => (some (v2, uF0_3))) else (some (uF10, 0))
set_option maxHeartbeats 4000000 in
set_option maxRecDepth 100000 in
theorem m_X8_errorPosition {l : Launch} {κ : xKt} {wA : Nat → sAcc} {wT : sTxt} {wG : sRng} {wM : sMai} {wO : sOut}  {uF0 : Int32} {uF1 : xF64} {uF2 : xF64} {uF3 : xF64} {uF4 : xF64} {uF5 : Int32} {uF6 : Int32} {uF7 : Int32} {uF8 : xF32} {uF9 : Int32} {uF10 : Int32} {uF11 : Int64} {uF12 : xF32} {uF13 : Int32} {uF14 : Int32} {uF15 : Int32} {uF16 : xF32} {uF17 : xF32} {uF18 : Int32} {rr : Int32} {yF0 : Int32} (hf : f_X8_errorPosition uF0 uF10 = some (rr, yF0)) : xMi l κ yX8_errorPosition cX8_errorPosition 1 (some .int) (xR 1 0 0) [.ref (xAd κ 245)] (wA, wT, wG, wM, (uF0, uF1, uF2, uF3, uF4, uF5, uF6, uF7, uF8, uF9, uF10, uF11, uF12, uF13, uF14, uF15, uF16, uF17, uF18), wO) (wA, wT, wG, wM, (yF0, uF1, uF2, uF3, uF4, uF5, uF6, uF7, uF8, uF9, uF10, uF11, uF12, uF13, uF14, uF15, uF16, uF17, uF18), wO) rr := by
  unfold f_X8_errorPosition at hf
  refine xMi_of pn_X8 (Nat.le_of_ble_eq_true rfl) ⟨rfl, rfl⟩ ?_
  intro A p e s m args below meth c ls Q hc hw hl K
  have hc : xC κ A p s m args meth c cX8_errorPosition RX8 1 (some .int) := hc
  have hx := hc.1.1
  have hb := hc.1.2.1
  have hl : lv_has ls 1 [(0, .ref (xAd κ 245))] := hl
  refine lv_aload_n hx hb dX8_errorPosition_0 rfl (lv_at hl 0 rfl) ?_
  refine lv_iconst (v := 0) hx hb dX8_errorPosition_1 (by decide) ?_
  refine x_put (σ' := (wA, wT, wG, wM, (0, uF1, uF2, uF3, uF4, uF5, uF6, uF7, uF8, uF9, uF10, uF11, uF12, uF13, uF14, uF15, uF16, uF17, uF18), wO)) hc hw co_245 fX8_42 rfl rfl (Nat.le_of_ble_eq_true rfl) so_F_0 dX8_errorPosition_2 (fun H locs hw => ?_)
  refine lv_aload_n hx hb dX8_errorPosition_5 rfl (lv_at hl 0 rfl) ?_
  refine x_get (v := .int uF10) hc hw co_245 fX8_26 rfl dX8_errorPosition_6 ?_
  refine lv_iconst (v := (-1)) hx hb dX8_errorPosition_9 (by decide) ?_
  refine lv_icmp_ne (tgt := 21) hx hb dX8_errorPosition_10 (by decide) (fun c1 => ?_) (fun c1 => ?_)
  · have hf := xif_f c1 hf
    refine lv_aload_n hx hb dX8_errorPosition_21 rfl (lv_at hl 0 rfl) ?_
    refine x_get (v := .int uF10) hc hw co_245 fX8_26 rfl dX8_errorPosition_22 ?_
    cases hf
    exact K _ _ _ _ dX8_errorPosition_25 rfl hw
  · have hf := xif_t c1 hf
    refine lv_aload_n hx hb dX8_errorPosition_13 rfl (lv_at hl 0 rfl) ?_
    refine lv_iconst (v := 1) hx hb dX8_errorPosition_14 (by decide) ?_
    obtain ⟨v2, uF0_3, h4, hf⟩ := xb2_of hf
    refine x_calliV (As := [.int 1]) (rest := []) (σ' := (wA, wT, wG, wM, (uF0_3, uF1, uF2, uF3, uF4, uF5, uF6, uF7, uF8, uF9, uF10, uF11, uF12, uF13, uF14, uF15, uF16, uF17, uF18), wO)) hc hw hl.1 (m_X8_fails h4) kX8_79 co_245 rfl rfl ⟨rfl, rfl⟩ ⟨Nat.le_of_ble_eq_true rfl, Nat.le_of_ble_eq_true rfl⟩ ⟨Nat.zero_le _, Nat.zero_le _⟩ (Nat.le_of_ble_eq_true rfl) dX8_errorPosition_15 (fun H locs hw => ?_)
    refine lv_goto (tgt := 25) hx hb dX8_errorPosition_18 (by decide) ?_
    cases hf
    exact K _ _ _ _ dX8_errorPosition_25 rfl hw
def f_X8_undo_30 (fu : Nat) (uF4 : xF64) : Nat → (Int32) → (Int32) → (xF64) → (Int32) → Option (Int32 × Int32 × xF64 × Int32)
  | 0, _, _, _, _ => none
  | n + 1, x1, uF0, uF1, uF5 => if 304 ≤ x1 then (some (uF5, uF0, uF1, uF5)) else (xk (xin ((304 * uF5) + x1) 1824) (xk (xin x1 304) (f_X8_undo_30 fu uF4 n (x1 + 1) uF0 (vp_updL uF1 x1.toNatClampNeg (uF4 ((304 * uF5) + x1).toNatClampNeg)) uF5)))
def f_X8_undo (fu : Nat) (uF0 : Int32) (uF1 : xF64) (uF4 : xF64) (uF5 : Int32) : Option (Int32 × Int32 × xF64 × Int32) :=
  if uF5 = 0 then (xb2 (f_X8_fails 1 0) fun v5 uF0_6 => (some (v5, uF0_6, uF1, uF5))) else (f_X8_undo_30 fu uF4 fu 0 0 uF1 (uF5 - 1))
set_option maxHeartbeats 4000000 in
set_option maxRecDepth 100000 in
theorem l_X8_undo_30 {l : Launch} {κ : xKt} {wA : Nat → sAcc} {wT : sTxt} {wG : sRng} {wM : sMai} {wO : sOut} {fu : Nat} {uF2 : xF64} {uF3 : xF64} {uF4 : xF64} {uF6 : Int32} {uF7 : Int32} {uF8 : xF32} {uF9 : Int32} {uF10 : Int32} {uF11 : Int64} {uF12 : xF32} {uF13 : Int32} {uF14 : Int32} {uF15 : Int32} {uF16 : xF32} {uF17 : xF32} {uF18 : Int32} {A : Nat → Prop} {p : Program} {e : Env} {s : State} {m : MethodId} {args : Array Value} {below : List Frame} {meth : Method} {c : Code} {Q : State → Prop} {rr : Int32} {yF0 : Int32} {yF1 : xF64} {yF5 : Int32}
    (hc : xC κ A p s m args meth c cX8_undo RX8 2 (some .int))
    (K : ∀ (pc : Nat) (ls : Array Slot) (H : Heap) (locs : List Loc), decode cX8_undo pc = .ok (.ireturn, 1) → narrow .int (.int rr) = .int rr → xW κ A s (wA, wT, wG, wM, (yF0, yF1, uF2, uF3, uF4, yF5, uF6, uF7, uF8, uF9, uF10, uF11, uF12, uF13, uF14, uF15, uF16, uF17, uF18), wO) H locs → W p l e (xR 1 0 0) s m args below meth c H locs 0 0 Q (F0 m pc ls [.int rr])) :
    ∀ (n : Nat) (x1 : Int32) (uF0 : Int32) (uF1 : xF64) (uF5 : Int32) (H : Heap) (locs : List Loc) (ls : Array Slot), f_X8_undo_30 fu uF4 n x1 uF0 uF1 uF5 = some (rr, yF0, yF1, yF5) → xW κ A s (wA, wT, wG, wM, (uF0, uF1, uF2, uF3, uF4, uF5, uF6, uF7, uF8, uF9, uF10, uF11, uF12, uF13, uF14, uF15, uF16, uF17, uF18), wO) H locs → lv_has ls 2 [(0, .ref (xAd κ 245)), (1, .int x1)] → W p l e (xR 1 0 0) s m args below meth c H locs 0 0 Q (F0 m 30 ls []) := by
  have hx := hc.1.1
  have hb := hc.1.2.1
  intro n
  induction n with
  | zero =>
    intro x1 uF0 uF1 uF5 H locs ls hf
    rw [f_X8_undo_30] at hf
    cases hf
  | succ n hi =>
    intro x1 uF0 uF1 uF5 H locs ls hf hw hl
    rw [f_X8_undo_30] at hf
    refine lv_iload_n hx hb dX8_undo_30 rfl (lv_at hl 1 rfl) ?_
    refine lv_sipush (v := 304) hx hb dX8_undo_31 (by decide) ?_
    refine lv_icmp_ge (tgt := 64) hx hb dX8_undo_34 (by decide) (fun c2 => ?_) (fun c2 => ?_)
    · have hf := xif_t c2 hf
      refine lv_aload_n hx hb dX8_undo_64 rfl (lv_at hl 0 rfl) ?_
      refine x_get (v := .int uF5) hc hw co_245 fX8_73 rfl dX8_undo_65 ?_
      cases hf
      exact K _ _ _ _ dX8_undo_68 rfl hw
    · have hf := xif_f c2 hf
      refine lv_aload_n hx hb dX8_undo_37 rfl (lv_at hl 0 rfl) ?_
      refine x_get (v := .ref (xAd κ 246)) hc hw co_245 fX8_7 rfl dX8_undo_38 ?_
      refine lv_iload_n hx hb dX8_undo_41 rfl (lv_at hl 1 rfl) ?_
      refine lv_aload_n hx hb dX8_undo_42 rfl (lv_at hl 0 rfl) ?_
      refine x_get (v := .ref (xAd κ 249)) hc hw co_245 fX8_19 rfl dX8_undo_43 ?_
      refine lv_sipush (v := 304) hx hb dX8_undo_46 (by decide) ?_
      refine lv_aload_n hx hb dX8_undo_49 rfl (lv_at hl 0 rfl) ?_
      refine x_get (v := .int uF5) hc hw co_245 fX8_73 rfl dX8_undo_50 ?_
      refine lv_imul hx hb dX8_undo_53 ?_
      refine lv_iload_n hx hb dX8_undo_54 rfl (lv_at hl 1 rfl) ?_
      refine lv_iadd hx hb dX8_undo_55 ?_
      obtain ⟨k3, hf⟩ := xk_of hf
      refine x_lald (n := 1824) (f := uF4) hc hw co_249 k3 dX8_undo_56 ?_
      obtain ⟨k4, hf⟩ := xk_of hf
      refine x_last (n := 304) (f := uF1) (σ' := (wA, wT, wG, wM, (uF0, (vp_updL uF1 x1.toNatClampNeg (uF4 ((304 * uF5) + x1).toNatClampNeg)), uF2, uF3, uF4, uF5, uF6, uF7, uF8, uF9, uF10, uF11, uF12, uF13, uF14, uF15, uF16, uF17, uF18), wO)) hc hw co_246 k4 so_F_1 dX8_undo_57 (fun H locs hw => ?_)
      refine lv_iinc (v := (x1 + 1)) (lv' := [(1, .int (x1 + 1)), (0, .ref (xAd κ 245))]) hx hb dX8_undo_58 hl (k := 1) rfl rfl (by decide) rfl (fun ls hl => ?_)
      refine lv_goto (tgt := 30) hx hb dX8_undo_61 (by decide) ?_
      exact hi _ _ _ _ _ _ _ hf hw (lv_sub hl [1, 0] rfl)
set_option maxHeartbeats 4000000 in
set_option maxRecDepth 100000 in
theorem m_X8_undo {l : Launch} {κ : xKt} {wA : Nat → sAcc} {wT : sTxt} {wG : sRng} {wM : sMai} {wO : sOut} {fu : Nat} {uF0 : Int32} {uF1 : xF64} {uF2 : xF64} {uF3 : xF64} {uF4 : xF64} {uF5 : Int32} {uF6 : Int32} {uF7 : Int32} {uF8 : xF32} {uF9 : Int32} {uF10 : Int32} {uF11 : Int64} {uF12 : xF32} {uF13 : Int32} {uF14 : Int32} {uF15 : Int32} {uF16 : xF32} {uF17 : xF32} {uF18 : Int32} {rr : Int32} {yF0 : Int32} {yF1 : xF64} {yF5 : Int32} (hf : f_X8_undo fu uF0 uF1 uF4 uF5 = some (rr, yF0, yF1, yF5)) : xMi l κ yX8_undo cX8_undo 2 (some .int) (xR 1 0 0) [.ref (xAd κ 245)] (wA, wT, wG, wM, (uF0, uF1, uF2, uF3, uF4, uF5, uF6, uF7, uF8, uF9, uF10, uF11, uF12, uF13, uF14, uF15, uF16, uF17, uF18), wO) (wA, wT, wG, wM, (yF0, yF1, uF2, uF3, uF4, yF5, uF6, uF7, uF8, uF9, uF10, uF11, uF12, uF13, uF14, uF15, uF16, uF17, uF18), wO) rr := by
  unfold f_X8_undo at hf
  refine xMi_of pn_X8 (Nat.le_of_ble_eq_true rfl) ⟨rfl, rfl⟩ ?_
  intro A p e s m args below meth c ls Q hc hw hl K
  have hc : xC κ A p s m args meth c cX8_undo RX8 2 (some .int) := hc
  have hx := hc.1.1
  have hb := hc.1.2.1
  have hl : lv_has ls 2 [(0, .ref (xAd κ 245))] := hl
  refine lv_aload_n hx hb dX8_undo_0 rfl (lv_at hl 0 rfl) ?_
  refine lv_iconst (v := 0) hx hb dX8_undo_1 (by decide) ?_
  refine x_put (σ' := (wA, wT, wG, wM, (0, uF1, uF2, uF3, uF4, uF5, uF6, uF7, uF8, uF9, uF10, uF11, uF12, uF13, uF14, uF15, uF16, uF17, uF18), wO)) hc hw co_245 fX8_42 rfl rfl (Nat.le_of_ble_eq_true rfl) so_F_0 dX8_undo_2 (fun H locs hw => ?_)
  refine lv_aload_n hx hb dX8_undo_5 rfl (lv_at hl 0 rfl) ?_
  refine x_get (v := .int uF5) hc hw co_245 fX8_73 rfl dX8_undo_6 ?_
  refine lv_if_ne (tgt := 18) hx hb dX8_undo_9 (by decide) (fun c1 => ?_) (fun c1 => ?_)
  · have hf := xif_f c1 hf
    refine lv_aload_n hx hb dX8_undo_18 rfl (lv_at hl 0 rfl) ?_
    refine lv_dup hx hb dX8_undo_19 rfl ?_
    refine x_get (v := .int uF5) hc hw co_245 fX8_73 rfl dX8_undo_20 ?_
    refine lv_iconst (v := 1) hx hb dX8_undo_23 (by decide) ?_
    refine lv_isub hx hb dX8_undo_24 ?_
    refine x_put (σ' := (wA, wT, wG, wM, (0, uF1, uF2, uF3, uF4, (uF5 - 1), uF6, uF7, uF8, uF9, uF10, uF11, uF12, uF13, uF14, uF15, uF16, uF17, uF18), wO)) hc hw co_245 fX8_73 rfl rfl (Nat.le_of_ble_eq_true rfl) so_F_5 dX8_undo_25 (fun H locs hw => ?_)
    refine lv_iconst (v := 0) hx hb dX8_undo_28 (by decide) ?_
    refine lv_istore_n (lv' := [(1, .int 0), (0, .ref (xAd κ 245))]) hx hb dX8_undo_29 rfl hl (by decide) rfl (fun ls hl => ?_)
    exact l_X8_undo_30 hc K fu _ _ _ _ _ _ _ hf hw (lv_sub hl [1, 0] rfl)
  · have hf := xif_t c1 hf
    refine lv_aload_n hx hb dX8_undo_12 rfl (lv_at hl 0 rfl) ?_
    refine lv_iconst (v := 1) hx hb dX8_undo_13 (by decide) ?_
    obtain ⟨v5, uF0_6, h7, hf⟩ := xb2_of hf
    refine x_calliV (As := [.int 1]) (rest := []) (σ' := (wA, wT, wG, wM, (uF0_6, uF1, uF2, uF3, uF4, uF5, uF6, uF7, uF8, uF9, uF10, uF11, uF12, uF13, uF14, uF15, uF16, uF17, uF18), wO)) hc hw hl.1 (m_X8_fails h7) kX8_79 co_245 rfl rfl ⟨rfl, rfl⟩ ⟨Nat.le_of_ble_eq_true rfl, Nat.le_of_ble_eq_true rfl⟩ ⟨Nat.zero_le _, Nat.zero_le _⟩ (Nat.le_of_ble_eq_true rfl) dX8_undo_14 (fun H locs hw => ?_)
    cases hf
    exact K _ _ _ _ dX8_undo_17 rfl hw
def f_X8_save_7 (fu : Nat) (uF1 : xF64) : Nat → (Int32) → (Int32) → (xF64) → (Int32) → Option (Int32 × Int32 × xF64 × Int32)
  | 0, _, _, _, _ => none
  | n + 1, x1, uF0, uF2, uF6 => if 304 ≤ x1 then (xb1 (f_X8_claims uF1) fun v2 => (some (v2, uF0, uF2, 1))) else (xk (xin x1 304) (xk (xin x1 304) (f_X8_save_7 fu uF1 n (x1 + 1) uF0 (vp_updL uF2 x1.toNatClampNeg (uF1 x1.toNatClampNeg)) uF6)))
def f_X8_save (fu : Nat) (uF0 : Int32) (uF1 : xF64) (uF2 : xF64) (uF6 : Int32) : Option (Int32 × Int32 × xF64 × Int32) :=
  f_X8_save_7 fu uF1 fu 0 0 uF2 uF6
set_option maxHeartbeats 4000000 in
set_option maxRecDepth 100000 in
theorem l_X8_save_7 {l : Launch} {κ : xKt} {wA : Nat → sAcc} {wT : sTxt} {wG : sRng} {wM : sMai} {wO : sOut} {fu : Nat} {uF1 : xF64} {uF3 : xF64} {uF4 : xF64} {uF5 : Int32} {uF7 : Int32} {uF8 : xF32} {uF9 : Int32} {uF10 : Int32} {uF11 : Int64} {uF12 : xF32} {uF13 : Int32} {uF14 : Int32} {uF15 : Int32} {uF16 : xF32} {uF17 : xF32} {uF18 : Int32} {A : Nat → Prop} {p : Program} {e : Env} {s : State} {m : MethodId} {args : Array Value} {below : List Frame} {meth : Method} {c : Code} {Q : State → Prop} {rr : Int32} {yF0 : Int32} {yF2 : xF64} {yF6 : Int32}
    (hc : xC κ A p s m args meth c cX8_save RX8 2 (some .int))
    (K : ∀ (pc : Nat) (ls : Array Slot) (H : Heap) (locs : List Loc), decode cX8_save pc = .ok (.ireturn, 1) → narrow .int (.int rr) = .int rr → xW κ A s (wA, wT, wG, wM, (yF0, uF1, yF2, uF3, uF4, uF5, yF6, uF7, uF8, uF9, uF10, uF11, uF12, uF13, uF14, uF15, uF16, uF17, uF18), wO) H locs → W p l e (xR 1 0 0) s m args below meth c H locs 0 0 Q (F0 m pc ls [.int rr])) :
    ∀ (n : Nat) (x1 : Int32) (uF0 : Int32) (uF2 : xF64) (uF6 : Int32) (H : Heap) (locs : List Loc) (ls : Array Slot), f_X8_save_7 fu uF1 n x1 uF0 uF2 uF6 = some (rr, yF0, yF2, yF6) → xW κ A s (wA, wT, wG, wM, (uF0, uF1, uF2, uF3, uF4, uF5, uF6, uF7, uF8, uF9, uF10, uF11, uF12, uF13, uF14, uF15, uF16, uF17, uF18), wO) H locs → lv_has ls 2 [(0, .ref (xAd κ 245)), (1, .int x1)] → W p l e (xR 1 0 0) s m args below meth c H locs 0 0 Q (F0 m 7 ls []) := by
  have hx := hc.1.1
  have hb := hc.1.2.1
  intro n
  induction n with
  | zero =>
    intro x1 uF0 uF2 uF6 H locs ls hf
    rw [f_X8_save_7] at hf
    cases hf
  | succ n hi =>
    intro x1 uF0 uF2 uF6 H locs ls hf hw hl
    rw [f_X8_save_7] at hf
    refine lv_iload_n hx hb dX8_save_7 rfl (lv_at hl 1 rfl) ?_
    refine lv_sipush (v := 304) hx hb dX8_save_8 (by decide) ?_
    refine lv_icmp_ge (tgt := 32) hx hb dX8_save_11 (by decide) (fun c1 => ?_) (fun c1 => ?_)
    · have hf := xif_t c1 hf
      refine lv_aload_n hx hb dX8_save_32 rfl (lv_at hl 0 rfl) ?_
      refine lv_iconst (v := 1) hx hb dX8_save_33 (by decide) ?_
      refine x_put (σ' := (wA, wT, wG, wM, (uF0, uF1, uF2, uF3, uF4, uF5, 1, uF7, uF8, uF9, uF10, uF11, uF12, uF13, uF14, uF15, uF16, uF17, uF18), wO)) hc hw co_245 fX8_298 rfl rfl (Nat.le_of_ble_eq_true rfl) so_F_6 dX8_save_34 (fun H locs hw => ?_)
      refine lv_aload_n hx hb dX8_save_37 rfl (lv_at hl 0 rfl) ?_
      obtain ⟨v2, h3, hf⟩ := xb1_of hf
      refine x_calliV (As := []) (rest := []) (σ' := (wA, wT, wG, wM, (uF0, uF1, uF2, uF3, uF4, uF5, 1, uF7, uF8, uF9, uF10, uF11, uF12, uF13, uF14, uF15, uF16, uF17, uF18), wO)) hc hw hl.1 (m_X8_claims h3) kX8_67 co_245 rfl rfl ⟨rfl, rfl⟩ ⟨Nat.le_of_ble_eq_true rfl, Nat.le_of_ble_eq_true rfl⟩ ⟨Nat.zero_le _, Nat.zero_le _⟩ (Nat.le_of_ble_eq_true rfl) dX8_save_38 (fun H locs hw => ?_)
      cases hf
      exact K _ _ _ _ dX8_save_41 rfl hw
    · have hf := xif_f c1 hf
      refine lv_aload_n hx hb dX8_save_14 rfl (lv_at hl 0 rfl) ?_
      refine x_get (v := .ref (xAd κ 247)) hc hw co_245 fX8_13 rfl dX8_save_15 ?_
      refine lv_iload_n hx hb dX8_save_18 rfl (lv_at hl 1 rfl) ?_
      refine lv_aload_n hx hb dX8_save_19 rfl (lv_at hl 0 rfl) ?_
      refine x_get (v := .ref (xAd κ 246)) hc hw co_245 fX8_7 rfl dX8_save_20 ?_
      refine lv_iload_n hx hb dX8_save_23 rfl (lv_at hl 1 rfl) ?_
      obtain ⟨k4, hf⟩ := xk_of hf
      refine x_lald (n := 304) (f := uF1) hc hw co_246 k4 dX8_save_24 ?_
      obtain ⟨k5, hf⟩ := xk_of hf
      refine x_last (n := 304) (f := uF2) (σ' := (wA, wT, wG, wM, (uF0, uF1, (vp_updL uF2 x1.toNatClampNeg (uF1 x1.toNatClampNeg)), uF3, uF4, uF5, uF6, uF7, uF8, uF9, uF10, uF11, uF12, uF13, uF14, uF15, uF16, uF17, uF18), wO)) hc hw co_247 k5 so_F_2 dX8_save_25 (fun H locs hw => ?_)
      refine lv_iinc (v := (x1 + 1)) (lv' := [(1, .int (x1 + 1)), (0, .ref (xAd κ 245))]) hx hb dX8_save_26 hl (k := 1) rfl rfl (by decide) rfl (fun ls hl => ?_)
      refine lv_goto (tgt := 7) hx hb dX8_save_29 (by decide) ?_
      exact hi _ _ _ _ _ _ _ hf hw (lv_sub hl [1, 0] rfl)
set_option maxHeartbeats 4000000 in
set_option maxRecDepth 100000 in
theorem m_X8_save {l : Launch} {κ : xKt} {wA : Nat → sAcc} {wT : sTxt} {wG : sRng} {wM : sMai} {wO : sOut} {fu : Nat} {uF0 : Int32} {uF1 : xF64} {uF2 : xF64} {uF3 : xF64} {uF4 : xF64} {uF5 : Int32} {uF6 : Int32} {uF7 : Int32} {uF8 : xF32} {uF9 : Int32} {uF10 : Int32} {uF11 : Int64} {uF12 : xF32} {uF13 : Int32} {uF14 : Int32} {uF15 : Int32} {uF16 : xF32} {uF17 : xF32} {uF18 : Int32} {rr : Int32} {yF0 : Int32} {yF2 : xF64} {yF6 : Int32} (hf : f_X8_save fu uF0 uF1 uF2 uF6 = some (rr, yF0, yF2, yF6)) : xMi l κ yX8_save cX8_save 2 (some .int) (xR 1 0 0) [.ref (xAd κ 245)] (wA, wT, wG, wM, (uF0, uF1, uF2, uF3, uF4, uF5, uF6, uF7, uF8, uF9, uF10, uF11, uF12, uF13, uF14, uF15, uF16, uF17, uF18), wO) (wA, wT, wG, wM, (yF0, uF1, yF2, uF3, uF4, uF5, yF6, uF7, uF8, uF9, uF10, uF11, uF12, uF13, uF14, uF15, uF16, uF17, uF18), wO) rr := by
  unfold f_X8_save at hf
  refine xMi_of pn_X8 (Nat.le_of_ble_eq_true rfl) ⟨rfl, rfl⟩ ?_
  intro A p e s m args below meth c ls Q hc hw hl K
  have hc : xC κ A p s m args meth c cX8_save RX8 2 (some .int) := hc
  have hx := hc.1.1
  have hb := hc.1.2.1
  have hl : lv_has ls 2 [(0, .ref (xAd κ 245))] := hl
  refine lv_aload_n hx hb dX8_save_0 rfl (lv_at hl 0 rfl) ?_
  refine lv_iconst (v := 0) hx hb dX8_save_1 (by decide) ?_
  refine x_put (σ' := (wA, wT, wG, wM, (0, uF1, uF2, uF3, uF4, uF5, uF6, uF7, uF8, uF9, uF10, uF11, uF12, uF13, uF14, uF15, uF16, uF17, uF18), wO)) hc hw co_245 fX8_42 rfl rfl (Nat.le_of_ble_eq_true rfl) so_F_0 dX8_save_2 (fun H locs hw => ?_)
  refine lv_iconst (v := 0) hx hb dX8_save_5 (by decide) ?_
  refine lv_istore_n (lv' := [(1, .int 0), (0, .ref (xAd κ 245))]) hx hb dX8_save_6 rfl hl (by decide) rfl (fun ls hl => ?_)
  exact l_X8_save_7 hc K fu _ _ _ _ _ _ _ hf hw (lv_sub hl [1, 0] rfl)
def f_X8_restore_20 (fu : Nat) (uF2 : xF64) (uF6 : Int32) : Nat → (Int32) → (Int32) → (xF64) → (Int32) → Option (Int32 × Int32 × xF64 × Int32)
  | 0, _, _, _, _ => none
  | n + 1, x1, uF0, uF1, uF5 => if 304 ≤ x1 then (xb1 (f_X8_claims uF1) fun v3 => (some (v3, uF0, uF1, 0))) else (xk (xin x1 304) (xk (xin x1 304) (f_X8_restore_20 fu uF2 uF6 n (x1 + 1) uF0 (vp_updL uF1 x1.toNatClampNeg (uF2 x1.toNatClampNeg)) uF5)))
def f_X8_restore (fu : Nat) (uF0 : Int32) (uF1 : xF64) (uF2 : xF64) (uF5 : Int32) (uF6 : Int32) : Option (Int32 × Int32 × xF64 × Int32) :=
  if uF6 = 0 then (xb2 (f_X8_fails 1 0) fun v7 uF0_8 => (some (v7, uF0_8, uF1, uF5))) else (f_X8_restore_20 fu uF2 uF6 fu 0 0 uF1 uF5)
set_option maxHeartbeats 4000000 in
set_option maxRecDepth 100000 in
theorem l_X8_restore_20 {l : Launch} {κ : xKt} {wA : Nat → sAcc} {wT : sTxt} {wG : sRng} {wM : sMai} {wO : sOut} {fu : Nat} {uF2 : xF64} {uF3 : xF64} {uF4 : xF64} {uF6 : Int32} {uF7 : Int32} {uF8 : xF32} {uF9 : Int32} {uF10 : Int32} {uF11 : Int64} {uF12 : xF32} {uF13 : Int32} {uF14 : Int32} {uF15 : Int32} {uF16 : xF32} {uF17 : xF32} {uF18 : Int32} {A : Nat → Prop} {p : Program} {e : Env} {s : State} {m : MethodId} {args : Array Value} {below : List Frame} {meth : Method} {c : Code} {Q : State → Prop} {rr : Int32} {yF0 : Int32} {yF1 : xF64} {yF5 : Int32}
    (hc : xC κ A p s m args meth c cX8_restore RX8 2 (some .int))
    (K : ∀ (pc : Nat) (ls : Array Slot) (H : Heap) (locs : List Loc), decode cX8_restore pc = .ok (.ireturn, 1) → narrow .int (.int rr) = .int rr → xW κ A s (wA, wT, wG, wM, (yF0, yF1, uF2, uF3, uF4, yF5, uF6, uF7, uF8, uF9, uF10, uF11, uF12, uF13, uF14, uF15, uF16, uF17, uF18), wO) H locs → W p l e (xR 1 0 0) s m args below meth c H locs 0 0 Q (F0 m pc ls [.int rr])) :
    ∀ (n : Nat) (x1 : Int32) (uF0 : Int32) (uF1 : xF64) (uF5 : Int32) (H : Heap) (locs : List Loc) (ls : Array Slot), f_X8_restore_20 fu uF2 uF6 n x1 uF0 uF1 uF5 = some (rr, yF0, yF1, yF5) → xW κ A s (wA, wT, wG, wM, (uF0, uF1, uF2, uF3, uF4, uF5, uF6, uF7, uF8, uF9, uF10, uF11, uF12, uF13, uF14, uF15, uF16, uF17, uF18), wO) H locs → lv_has ls 2 [(0, .ref (xAd κ 245)), (1, .int x1)] → W p l e (xR 1 0 0) s m args below meth c H locs 0 0 Q (F0 m 20 ls []) := by
  have hx := hc.1.1
  have hb := hc.1.2.1
  intro n
  induction n with
  | zero =>
    intro x1 uF0 uF1 uF5 H locs ls hf
    rw [f_X8_restore_20] at hf
    cases hf
  | succ n hi =>
    intro x1 uF0 uF1 uF5 H locs ls hf hw hl
    rw [f_X8_restore_20] at hf
    refine lv_iload_n hx hb dX8_restore_20 rfl (lv_at hl 1 rfl) ?_
    refine lv_sipush (v := 304) hx hb dX8_restore_21 (by decide) ?_
    refine lv_icmp_ge (tgt := 45) hx hb dX8_restore_24 (by decide) (fun c2 => ?_) (fun c2 => ?_)
    · have hf := xif_t c2 hf
      refine lv_aload_n hx hb dX8_restore_45 rfl (lv_at hl 0 rfl) ?_
      refine lv_iconst (v := 0) hx hb dX8_restore_46 (by decide) ?_
      refine x_put (σ' := (wA, wT, wG, wM, (uF0, uF1, uF2, uF3, uF4, 0, uF6, uF7, uF8, uF9, uF10, uF11, uF12, uF13, uF14, uF15, uF16, uF17, uF18), wO)) hc hw co_245 fX8_73 rfl rfl (Nat.le_of_ble_eq_true rfl) so_F_5 dX8_restore_47 (fun H locs hw => ?_)
      refine lv_aload_n hx hb dX8_restore_50 rfl (lv_at hl 0 rfl) ?_
      obtain ⟨v3, h4, hf⟩ := xb1_of hf
      refine x_calliV (As := []) (rest := []) (σ' := (wA, wT, wG, wM, (uF0, uF1, uF2, uF3, uF4, 0, uF6, uF7, uF8, uF9, uF10, uF11, uF12, uF13, uF14, uF15, uF16, uF17, uF18), wO)) hc hw hl.1 (m_X8_claims h4) kX8_67 co_245 rfl rfl ⟨rfl, rfl⟩ ⟨Nat.le_of_ble_eq_true rfl, Nat.le_of_ble_eq_true rfl⟩ ⟨Nat.zero_le _, Nat.zero_le _⟩ (Nat.le_of_ble_eq_true rfl) dX8_restore_51 (fun H locs hw => ?_)
      cases hf
      exact K _ _ _ _ dX8_restore_54 rfl hw
    · have hf := xif_f c2 hf
      refine lv_aload_n hx hb dX8_restore_27 rfl (lv_at hl 0 rfl) ?_
      refine x_get (v := .ref (xAd κ 246)) hc hw co_245 fX8_7 rfl dX8_restore_28 ?_
      refine lv_iload_n hx hb dX8_restore_31 rfl (lv_at hl 1 rfl) ?_
      refine lv_aload_n hx hb dX8_restore_32 rfl (lv_at hl 0 rfl) ?_
      refine x_get (v := .ref (xAd κ 247)) hc hw co_245 fX8_13 rfl dX8_restore_33 ?_
      refine lv_iload_n hx hb dX8_restore_36 rfl (lv_at hl 1 rfl) ?_
      obtain ⟨k5, hf⟩ := xk_of hf
      refine x_lald (n := 304) (f := uF2) hc hw co_247 k5 dX8_restore_37 ?_
      obtain ⟨k6, hf⟩ := xk_of hf
      refine x_last (n := 304) (f := uF1) (σ' := (wA, wT, wG, wM, (uF0, (vp_updL uF1 x1.toNatClampNeg (uF2 x1.toNatClampNeg)), uF2, uF3, uF4, uF5, uF6, uF7, uF8, uF9, uF10, uF11, uF12, uF13, uF14, uF15, uF16, uF17, uF18), wO)) hc hw co_246 k6 so_F_1 dX8_restore_38 (fun H locs hw => ?_)
      refine lv_iinc (v := (x1 + 1)) (lv' := [(1, .int (x1 + 1)), (0, .ref (xAd κ 245))]) hx hb dX8_restore_39 hl (k := 1) rfl rfl (by decide) rfl (fun ls hl => ?_)
      refine lv_goto (tgt := 20) hx hb dX8_restore_42 (by decide) ?_
      exact hi _ _ _ _ _ _ _ hf hw (lv_sub hl [1, 0] rfl)
set_option maxHeartbeats 4000000 in
set_option maxRecDepth 100000 in
theorem m_X8_restore {l : Launch} {κ : xKt} {wA : Nat → sAcc} {wT : sTxt} {wG : sRng} {wM : sMai} {wO : sOut} {fu : Nat} {uF0 : Int32} {uF1 : xF64} {uF2 : xF64} {uF3 : xF64} {uF4 : xF64} {uF5 : Int32} {uF6 : Int32} {uF7 : Int32} {uF8 : xF32} {uF9 : Int32} {uF10 : Int32} {uF11 : Int64} {uF12 : xF32} {uF13 : Int32} {uF14 : Int32} {uF15 : Int32} {uF16 : xF32} {uF17 : xF32} {uF18 : Int32} {rr : Int32} {yF0 : Int32} {yF1 : xF64} {yF5 : Int32} (hf : f_X8_restore fu uF0 uF1 uF2 uF5 uF6 = some (rr, yF0, yF1, yF5)) : xMi l κ yX8_restore cX8_restore 2 (some .int) (xR 1 0 0) [.ref (xAd κ 245)] (wA, wT, wG, wM, (uF0, uF1, uF2, uF3, uF4, uF5, uF6, uF7, uF8, uF9, uF10, uF11, uF12, uF13, uF14, uF15, uF16, uF17, uF18), wO) (wA, wT, wG, wM, (yF0, yF1, uF2, uF3, uF4, yF5, uF6, uF7, uF8, uF9, uF10, uF11, uF12, uF13, uF14, uF15, uF16, uF17, uF18), wO) rr := by
  unfold f_X8_restore at hf
  refine xMi_of pn_X8 (Nat.le_of_ble_eq_true rfl) ⟨rfl, rfl⟩ ?_
  intro A p e s m args below meth c ls Q hc hw hl K
  have hc : xC κ A p s m args meth c cX8_restore RX8 2 (some .int) := hc
  have hx := hc.1.1
  have hb := hc.1.2.1
  have hl : lv_has ls 2 [(0, .ref (xAd κ 245))] := hl
  refine lv_aload_n hx hb dX8_restore_0 rfl (lv_at hl 0 rfl) ?_
  refine lv_iconst (v := 0) hx hb dX8_restore_1 (by decide) ?_
  refine x_put (σ' := (wA, wT, wG, wM, (0, uF1, uF2, uF3, uF4, uF5, uF6, uF7, uF8, uF9, uF10, uF11, uF12, uF13, uF14, uF15, uF16, uF17, uF18), wO)) hc hw co_245 fX8_42 rfl rfl (Nat.le_of_ble_eq_true rfl) so_F_0 dX8_restore_2 (fun H locs hw => ?_)
  refine lv_aload_n hx hb dX8_restore_5 rfl (lv_at hl 0 rfl) ?_
  refine x_get (v := .int uF6) hc hw co_245 fX8_298 rfl dX8_restore_6 ?_
  refine lv_if_ne (tgt := 18) hx hb dX8_restore_9 (by decide) (fun c1 => ?_) (fun c1 => ?_)
  · have hf := xif_f c1 hf
    refine lv_iconst (v := 0) hx hb dX8_restore_18 (by decide) ?_
    refine lv_istore_n (lv' := [(1, .int 0), (0, .ref (xAd κ 245))]) hx hb dX8_restore_19 rfl hl (by decide) rfl (fun ls hl => ?_)
    exact l_X8_restore_20 hc K fu _ _ _ _ _ _ _ hf hw (lv_sub hl [1, 0] rfl)
  · have hf := xif_t c1 hf
    refine lv_aload_n hx hb dX8_restore_12 rfl (lv_at hl 0 rfl) ?_
    refine lv_iconst (v := 1) hx hb dX8_restore_13 (by decide) ?_
    obtain ⟨v7, uF0_8, h9, hf⟩ := xb2_of hf
    refine x_calliV (As := [.int 1]) (rest := []) (σ' := (wA, wT, wG, wM, (uF0_8, uF1, uF2, uF3, uF4, uF5, uF6, uF7, uF8, uF9, uF10, uF11, uF12, uF13, uF14, uF15, uF16, uF17, uF18), wO)) hc hw hl.1 (m_X8_fails h9) kX8_79 co_245 rfl rfl ⟨rfl, rfl⟩ ⟨Nat.le_of_ble_eq_true rfl, Nat.le_of_ble_eq_true rfl⟩ ⟨Nat.zero_le _, Nat.zero_le _⟩ (Nat.le_of_ble_eq_true rfl) dX8_restore_14 (fun H locs hw => ?_)
    cases hf
    exact K _ _ _ _ dX8_restore_17 rfl hw
