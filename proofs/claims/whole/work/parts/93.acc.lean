-- an account made
theorem wI_mk : ∀ w ∈ ([.classLink RX0 9 RX4, .instantiable RX4 7, .initialized RX4, .instanceMethod yX4_init, .code yX4_init cX4_init 1 none, .classLink RX0 18 RX1, .instantiable RX1 7, .initialized RX1, .instanceMethod yX1_init, .code yX1_init cX1_init 1 none, .classLink RX0 25 RX2, .instantiable RX2 6, .initialized RX2, .instanceMethod yX2_init, .code yX2_init cX2_init 1 none, .classLink RX0 32 RX3, .instantiable RX3 3, .initialized RX3, .instanceMethod yX3_init, .code yX3_init cX3_init 1 none, .classLink RX7 7 RX0, .instantiable RX0 8, .initialized RX0, .instanceMethod yX0_init, .code yX0_init cX0_init 1 none, .classLink RX7 23 RX6, .instantiable RX6 9, .initialized RX6, .instanceMethod yX6_init, .code yX6_init cX6_init 1 none, .classLink RX7 30 RX5, .instantiable RX5 3, .initialized RX5, .instanceMethod yX5_init, .code yX5_init cX5_init 1 none] : List Cond), w ∈ gW := xin_ws (by decide +kernel)
theorem kRX0_11 : iNk RX0 9 11 yX4_init cX4_init 1 RX4 TX4 7 4 [.int 0, .null, .null, .null, .null, .null, .null] := ⟨rfl, rfl, rfl, inX4, ⟨tyX4, tyX4_ok, fun j hj => by
  obtain rfl | rfl | rfl | rfl | rfl | rfl | rfl : j = 0 ∨ j = 1 ∨ j = 2 ∨ j = 3 ∨ j = 4 ∨ j = 5 ∨ j = 6 := by omega
  all_goals rfl⟩, (wI_mk _ (List.mem_of_getElem? (i := 0) rfl)), (wI_mk _ (List.mem_of_getElem? (i := 1) rfl)), (wI_mk _ (List.mem_of_getElem? (i := 2) rfl)), (wI_mk _ (List.mem_of_getElem? (i := 3) rfl)), (wI_mk _ (List.mem_of_getElem? (i := 4) rfl)), ⟨by decide, by decide, by decide +kernel⟩⟩
theorem nRX0_11 : (RX0, 11, yX4_init) ∈ xNest := List.mem_of_getElem? (i := 4) rfl
theorem kRX0_20 : iNk RX0 18 20 yX1_init cX1_init 1 RX1 TX1 7 1 [.int 0, .null, .null, .null, .null, .null, .null] := ⟨rfl, rfl, rfl, inX1, ⟨tyX1, tyX1_ok, fun j hj => by
  obtain rfl | rfl | rfl | rfl | rfl | rfl | rfl : j = 0 ∨ j = 1 ∨ j = 2 ∨ j = 3 ∨ j = 4 ∨ j = 5 ∨ j = 6 := by omega
  all_goals rfl⟩, (wI_mk _ (List.mem_of_getElem? (i := 5) rfl)), (wI_mk _ (List.mem_of_getElem? (i := 6) rfl)), (wI_mk _ (List.mem_of_getElem? (i := 7) rfl)), (wI_mk _ (List.mem_of_getElem? (i := 8) rfl)), (wI_mk _ (List.mem_of_getElem? (i := 9) rfl)), ⟨by decide, by decide, by decide +kernel⟩⟩
theorem nRX0_20 : (RX0, 20, yX1_init) ∈ xNest := List.mem_of_getElem? (i := 5) rfl
theorem kRX0_27 : iNk RX0 25 27 yX2_init cX2_init 1 RX2 TX2 6 2 [.int 0, .null, .null, .null, .null, .null] := ⟨rfl, rfl, rfl, inX2, ⟨tyX2, tyX2_ok, fun j hj => by
  obtain rfl | rfl | rfl | rfl | rfl | rfl : j = 0 ∨ j = 1 ∨ j = 2 ∨ j = 3 ∨ j = 4 ∨ j = 5 := by omega
  all_goals rfl⟩, (wI_mk _ (List.mem_of_getElem? (i := 10) rfl)), (wI_mk _ (List.mem_of_getElem? (i := 11) rfl)), (wI_mk _ (List.mem_of_getElem? (i := 12) rfl)), (wI_mk _ (List.mem_of_getElem? (i := 13) rfl)), (wI_mk _ (List.mem_of_getElem? (i := 14) rfl)), ⟨by decide, by decide, by decide +kernel⟩⟩
theorem nRX0_27 : (RX0, 27, yX2_init) ∈ xNest := List.mem_of_getElem? (i := 6) rfl
theorem kRX0_34 : iNk RX0 32 34 yX3_init cX3_init 1 RX3 TX3 3 3 [.int 0, .null, .null] := ⟨rfl, rfl, rfl, inX3, ⟨tyX3, tyX3_ok, fun j hj => by
  obtain rfl | rfl | rfl : j = 0 ∨ j = 1 ∨ j = 2 := by omega
  all_goals rfl⟩, (wI_mk _ (List.mem_of_getElem? (i := 15) rfl)), (wI_mk _ (List.mem_of_getElem? (i := 16) rfl)), (wI_mk _ (List.mem_of_getElem? (i := 17) rfl)), (wI_mk _ (List.mem_of_getElem? (i := 18) rfl)), (wI_mk _ (List.mem_of_getElem? (i := 19) rfl)), ⟨by decide, by decide, by decide +kernel⟩⟩
theorem nRX0_34 : (RX0, 34, yX3_init) ∈ xNest := List.mem_of_getElem? (i := 7) rfl
theorem kRX7_9 : iNk RX7 7 9 yX0_init cX0_init 1 RX0 TX0 8 0 [.null, .null, .null, .null, .null, .null, .int 0, .int 0] := ⟨rfl, rfl, rfl, inX0, ⟨tyX0, tyX0_ok, fun j hj => by
  obtain rfl | rfl | rfl | rfl | rfl | rfl | rfl | rfl : j = 0 ∨ j = 1 ∨ j = 2 ∨ j = 3 ∨ j = 4 ∨ j = 5 ∨ j = 6 ∨ j = 7 := by omega
  all_goals rfl⟩, (wI_mk _ (List.mem_of_getElem? (i := 20) rfl)), (wI_mk _ (List.mem_of_getElem? (i := 21) rfl)), (wI_mk _ (List.mem_of_getElem? (i := 22) rfl)), (wI_mk _ (List.mem_of_getElem? (i := 23) rfl)), (wI_mk _ (List.mem_of_getElem? (i := 24) rfl)), ⟨by decide, by decide, by decide +kernel⟩⟩
theorem nRX7_9 : (RX7, 9, yX0_init) ∈ xNest := List.mem_of_getElem? (i := 2) rfl
theorem kRX7_25 : iNk RX7 23 25 yX6_init cX6_init 1 RX6 TX6 9 6 [.int 0, .null, .int 0, .int 0, .int 0, .null, .null, .null, .null] := ⟨rfl, rfl, rfl, inX6, ⟨tyX6, tyX6_ok, fun j hj => by
  obtain rfl | rfl | rfl | rfl | rfl | rfl | rfl | rfl | rfl : j = 0 ∨ j = 1 ∨ j = 2 ∨ j = 3 ∨ j = 4 ∨ j = 5 ∨ j = 6 ∨ j = 7 ∨ j = 8 := by omega
  all_goals rfl⟩, (wI_mk _ (List.mem_of_getElem? (i := 25) rfl)), (wI_mk _ (List.mem_of_getElem? (i := 26) rfl)), (wI_mk _ (List.mem_of_getElem? (i := 27) rfl)), (wI_mk _ (List.mem_of_getElem? (i := 28) rfl)), (wI_mk _ (List.mem_of_getElem? (i := 29) rfl)), ⟨by decide, by decide, by decide +kernel⟩⟩
theorem nRX7_25 : (RX7, 25, yX6_init) ∈ xNest := List.mem_of_getElem? (i := 0) rfl
theorem kRX7_32 : iNk RX7 30 32 yX5_init cX5_init 1 RX5 TX5 3 5 [.int 0, .null, .null] := ⟨rfl, rfl, rfl, inX5, ⟨tyX5, tyX5_ok, fun j hj => by
  obtain rfl | rfl | rfl : j = 0 ∨ j = 1 ∨ j = 2 := by omega
  all_goals rfl⟩, (wI_mk _ (List.mem_of_getElem? (i := 30) rfl)), (wI_mk _ (List.mem_of_getElem? (i := 31) rfl)), (wI_mk _ (List.mem_of_getElem? (i := 32) rfl)), (wI_mk _ (List.mem_of_getElem? (i := 33) rfl)), (wI_mk _ (List.mem_of_getElem? (i := 34) rfl)), ⟨by decide, by decide, by decide +kernel⟩⟩
theorem nRX7_32 : (RX7, 32, yX5_init) ∈ xNest := List.mem_of_getElem? (i := 1) rfl
theorem wI_acc : ∀ w ∈ ([.methodLink RX0 43 ⟨"[I", "clone", "()Ljava/lang/Object;"⟩, .sameMethod "[I" "java/lang/Object" "clone" "()Ljava/lang/Object;", .native ⟨"java/lang/Object", "clone", "()Ljava/lang/Object;"⟩, .instanceMethod ⟨"java/lang/Object", "clone", "()Ljava/lang/Object;"⟩, .selects "[I" ⟨"[I", "clone", "()Ljava/lang/Object;"⟩ ⟨"java/lang/Object", "clone", "()Ljava/lang/Object;"⟩, .classLink RX0 44 "[I", .fieldLink RX0 39 "ArbitrationFees$Accounts" "FIRST_RATES" "[I", .fieldLink RX0 51 "ArbitrationFees$Accounts" "FIRST_TIERS" "[I"] : List Cond), w ∈ gW := xin_ws (by decide +kernel)
theorem kcl_43 : iCln RX0 43 := ⟨(wI_acc _ (List.mem_of_getElem? (i := 0) rfl)), (wI_acc _ (List.mem_of_getElem? (i := 1) rfl)), (wI_acc _ (List.mem_of_getElem? (i := 2) rfl)), (wI_acc _ (List.mem_of_getElem? (i := 3) rfl)), (wI_acc _ (List.mem_of_getElem? (i := 4) rfl))⟩
def iZacc : sAcc := ((0, (fun _ => 0), (fun _ => 0), (fun _ => 0), (fun _ => 0), (fun _ => 0), (fun _ => 0)), (0, (fun _ => 0), (fun _ => 0), (fun _ => 0), (fun _ => 0), (fun _ => 0), (fun _ => 0)), (0, (fun _ => 0), (fun _ => 0), (fun _ => 0), (fun _ => 0), (fun _ => 0)), (0, (fun _ => 0), (fun _ => 0)), xRate0, xTier0, 0, 0)
def iKg (κ : xKt) (g : Nat → Nat) : xKt := (κ.1, κ.2.1, g, κ.2.2.2)
def shX0 (κ : xKt) (g : Nat → Nat) (j : Nat) : va_E := xAcc (iKg κ g) 0 iZacc j
theorem iX0_init (l : Launch) (κ : xKt) : iM l κ yX0_init cX0_init 1 ({ frames := 2, cells := 25, slots := 321, locals := 80 }) 0 [.null, .null, .null, .null, .null, .null, .int 0, .int 0] 26 (shX0 κ) 25 321 := by
  refine iM_of pn_X0 rfl (by decide) ?_
  intro b A p e s m args below meth c ls Q hc hw hl K
  have hx := hc.1.1
  have hb := hc.1.2.1
  have go : ∀ (H : Heap) (locs : List Loc), iW κ A s [(b, .inr (0, [.null, .null, .null, .null, .null, .null, .int 0, .int 0]))] H locs → W p l e ({ frames := 2, cells := 25, slots := 321, locals := 80 }) s m args below meth c H locs 0 0 Q (F0 m 0 ls []) := by
    intro H locs hw
    refine lv_aload_n hx hb dX0_init_0 rfl (lv_at hl 0 rfl) ?_
    refine i_obj hc hl.1 (wI_all _ (List.mem_of_getElem? (i := 8) rfl)) (wI_all _ (List.mem_of_getElem? (i := 9) rfl)) (wI_all _ (List.mem_of_getElem? (i := 10) rfl)) ⟨by decide, by decide⟩ dX0_init_1 ?_
    refine lv_aload_n hx hb dX0_init_4 rfl (lv_at hl 0 rfl) ?_
    refine i_mk hc.1 hc.2.2.2.2.1 hc.2.2.2.2.2.1 hc.2.2.2.2.2.2 hw hl.1 kRX0_11 (iX4_init l κ) (.inl nRX0_11) ⟨rfl, rfl⟩ ⟨by decide, by decide⟩ ⟨by decide, by decide⟩ (Nat.le_of_ble_eq_true rfl) dX0_init_5 dX0_init_8 dX0_init_9 (fun g1 H locs hw => ?_)
    refine i_putF hc hw 0 rfl fX0_12 (fun C T N h => by cases h; rfl) rfl rfl (Nat.le_of_ble_eq_true rfl) (ws' := [(b, .inr (0, [.ref (g1 0), .null, .null, .null, .null, .null, .int 0, .int 0]))] ++ iWs 7 (shX4 κ) g1) rfl dX0_init_12 (fun H locs hw => ?_)
    refine lv_aload_n hx hb dX0_init_15 rfl (lv_at hl 0 rfl) ?_
    refine i_mk hc.1 hc.2.2.2.2.1 hc.2.2.2.2.2.1 hc.2.2.2.2.2.2 hw hl.1 kRX0_20 (iX1_init l κ) (.inl nRX0_20) ⟨rfl, rfl⟩ ⟨by decide, by decide⟩ ⟨by decide, by decide⟩ (Nat.le_of_ble_eq_true rfl) dX0_init_16 dX0_init_19 dX0_init_20 (fun g2 H locs hw => ?_)
    refine i_putF hc hw 0 rfl fX0_21 (fun C T N h => by cases h; rfl) rfl rfl (Nat.le_of_ble_eq_true rfl) (ws' := [(b, .inr (0, [.ref (g1 0), .ref (g2 0), .null, .null, .null, .null, .int 0, .int 0]))] ++ iWs 7 (shX4 κ) g1 ++ iWs 7 (shX1 κ) g2) rfl dX0_init_23 (fun H locs hw => ?_)
    refine lv_aload_n hx hb dX0_init_26 rfl (lv_at hl 0 rfl) ?_
    refine i_mk hc.1 hc.2.2.2.2.1 hc.2.2.2.2.2.1 hc.2.2.2.2.2.2 hw hl.1 kRX0_27 (iX2_init l κ) (.inl nRX0_27) ⟨rfl, rfl⟩ ⟨by decide, by decide⟩ ⟨by decide, by decide⟩ (Nat.le_of_ble_eq_true rfl) dX0_init_27 dX0_init_30 dX0_init_31 (fun g3 H locs hw => ?_)
    refine i_putF hc hw 0 rfl fX0_28 (fun C T N h => by cases h; rfl) rfl rfl (Nat.le_of_ble_eq_true rfl) (ws' := [(b, .inr (0, [.ref (g1 0), .ref (g2 0), .ref (g3 0), .null, .null, .null, .int 0, .int 0]))] ++ iWs 7 (shX4 κ) g1 ++ iWs 7 (shX1 κ) g2 ++ iWs 6 (shX2 κ) g3) rfl dX0_init_34 (fun H locs hw => ?_)
    refine lv_aload_n hx hb dX0_init_37 rfl (lv_at hl 0 rfl) ?_
    refine i_mk hc.1 hc.2.2.2.2.1 hc.2.2.2.2.2.1 hc.2.2.2.2.2.2 hw hl.1 kRX0_34 (iX3_init l κ) (.inl nRX0_34) ⟨rfl, rfl⟩ ⟨by decide, by decide⟩ ⟨by decide, by decide⟩ (Nat.le_of_ble_eq_true rfl) dX0_init_38 dX0_init_41 dX0_init_42 (fun g4 H locs hw => ?_)
    refine i_putF hc hw 0 rfl fX0_35 (fun C T N h => by cases h; rfl) rfl rfl (Nat.le_of_ble_eq_true rfl) (ws' := [(b, .inr (0, [.ref (g1 0), .ref (g2 0), .ref (g3 0), .ref (g4 0), .null, .null, .int 0, .int 0]))] ++ iWs 7 (shX4 κ) g1 ++ iWs 7 (shX1 κ) g2 ++ iWs 6 (shX2 κ) g3 ++ iWs 3 (shX3 κ) g4) rfl dX0_init_45 (fun H locs hw => ?_)
    refine lv_aload_n hx hb dX0_init_48 rfl (lv_at hl 0 rfl) ?_
    refine i_getsR hc hw (wI_acc _ (List.mem_of_getElem? (i := 6) rfl)) dX0_init_49 ?_
    refine i_clone hc hw hl.1 kcl_43 hc.2.2.2.2.2.2.2.2.1 ⟨by decide, Nat.le_of_ble_eq_true rfl⟩ ⟨by decide, by decide⟩ dX0_init_52 (fun qa1 H hw => ?_)
    have hw : iW κ A s ([(b, .inr (0, [.ref (g1 0), .ref (g2 0), .ref (g3 0), .ref (g4 0), .null, .null, .int 0, .int 0]))] ++ iWs 7 (shX4 κ) g1 ++ iWs 7 (shX1 κ) g2 ++ iWs 6 (shX2 κ) g3 ++ iWs 3 (shX3 κ) g4 ++ [(qa1, .inl (xcI κ, 4, .inl xRate0))]) H locs := hw
    refine i_castA hc hw (k := 24) rfl (wI_acc _ (List.mem_of_getElem? (i := 5) rfl)) dX0_init_55 ?_
    refine i_putF hc hw 0 rfl fX0_48 (fun C T N h => by cases h; rfl) rfl rfl (Nat.le_of_ble_eq_true rfl) (ws' := [(b, .inr (0, [.ref (g1 0), .ref (g2 0), .ref (g3 0), .ref (g4 0), .ref qa1, .null, .int 0, .int 0]))] ++ iWs 7 (shX4 κ) g1 ++ iWs 7 (shX1 κ) g2 ++ iWs 6 (shX2 κ) g3 ++ iWs 3 (shX3 κ) g4 ++ [(qa1, .inl (xcI κ, 4, .inl xRate0))]) rfl dX0_init_58 (fun H locs hw => ?_)
    refine lv_aload_n hx hb dX0_init_61 rfl (lv_at hl 0 rfl) ?_
    refine i_getsT hc hw (wI_acc _ (List.mem_of_getElem? (i := 7) rfl)) dX0_init_62 ?_
    refine i_clone hc hw hl.1 kcl_43 hc.2.2.2.2.2.2.2.2.2.2 ⟨by decide, Nat.le_of_ble_eq_true rfl⟩ ⟨by decide, by decide⟩ dX0_init_65 (fun qa2 H hw => ?_)
    have hw : iW κ A s ([(b, .inr (0, [.ref (g1 0), .ref (g2 0), .ref (g3 0), .ref (g4 0), .ref qa1, .null, .int 0, .int 0]))] ++ iWs 7 (shX4 κ) g1 ++ iWs 7 (shX1 κ) g2 ++ iWs 6 (shX2 κ) g3 ++ iWs 3 (shX3 κ) g4 ++ [(qa1, .inl (xcI κ, 4, .inl xRate0))] ++ [(qa2, .inl (xcI κ, 4, .inl xTier0))]) H locs := hw
    refine i_castA hc hw (k := 25) rfl (wI_acc _ (List.mem_of_getElem? (i := 5) rfl)) dX0_init_68 ?_
    refine i_putF hc hw 0 rfl fX0_54 (fun C T N h => by cases h; rfl) rfl rfl (Nat.le_of_ble_eq_true rfl) (ws' := [(b, .inr (0, [.ref (g1 0), .ref (g2 0), .ref (g3 0), .ref (g4 0), .ref qa1, .ref qa2, .int 0, .int 0]))] ++ iWs 7 (shX4 κ) g1 ++ iWs 7 (shX1 κ) g2 ++ iWs 6 (shX2 κ) g3 ++ iWs 3 (shX3 κ) g4 ++ [(qa1, .inl (xcI κ, 4, .inl xRate0))] ++ [(qa2, .inl (xcI κ, 4, .inl xTier0))]) rfl dX0_init_71 (fun H locs hw => ?_)
    refine lv_aload_n hx hb dX0_init_74 rfl (lv_at hl 0 rfl) ?_
    refine lv_iconst (v := 0) hx hb dX0_init_75 (by decide) ?_
    refine i_put hc hw 0 rfl fX0_57 rfl rfl (Nat.le_of_ble_eq_true rfl) (ws' := [(b, .inr (0, [.ref (g1 0), .ref (g2 0), .ref (g3 0), .ref (g4 0), .ref qa1, .ref qa2, .int 0, .int 0]))] ++ iWs 7 (shX4 κ) g1 ++ iWs 7 (shX1 κ) g2 ++ iWs 6 (shX2 κ) g3 ++ iWs 3 (shX3 κ) g4 ++ [(qa1, .inl (xcI κ, 4, .inl xRate0))] ++ [(qa2, .inl (xcI κ, 4, .inl xTier0))]) rfl dX0_init_76 (fun H locs hw => ?_)
    refine lv_aload_n hx hb dX0_init_79 rfl (lv_at hl 0 rfl) ?_
    refine lv_iconst (v := 0) hx hb dX0_init_80 (by decide) ?_
    refine i_put hc hw 0 rfl fX0_61 rfl rfl (Nat.le_of_ble_eq_true rfl) (ws' := [(b, .inr (0, [.ref (g1 0), .ref (g2 0), .ref (g3 0), .ref (g4 0), .ref qa1, .ref qa2, .int 0, .int 0]))] ++ iWs 7 (shX4 κ) g1 ++ iWs 7 (shX1 κ) g2 ++ iWs 6 (shX2 κ) g3 ++ iWs 3 (shX3 κ) g4 ++ [(qa1, .inl (xcI κ, 4, .inl xRate0))] ++ [(qa2, .inl (xcI κ, 4, .inl xTier0))]) rfl dX0_init_81 (fun H locs hw => ?_)
    exact K 84 ls H locs (fun j => match j with | 0 => b | 1 => g1 0 | 2 => g1 1 | 3 => g1 2 | 4 => g1 3 | 5 => g1 4 | 6 => g1 5 | 7 => g1 6 | 8 => g2 0 | 9 => g2 1 | 10 => g2 2 | 11 => g2 3 | 12 => g2 4 | 13 => g2 5 | 14 => g2 6 | 15 => g3 0 | 16 => g3 1 | 17 => g3 2 | 18 => g3 3 | 19 => g3 4 | 20 => g3 5 | 21 => g4 0 | 22 => g4 1 | 23 => g4 2 | 24 => qa1 | _ => qa2) dX0_init_84 rfl hw
  exact go s.heap [] hw
