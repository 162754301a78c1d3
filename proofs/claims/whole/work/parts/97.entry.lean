-- the entry of the law
theorem wI_law : ∀ w ∈ ([.classLink RL 8 RX7, .instantiable RX7 10, .initialized RX7, .instanceMethod yX7_init, .code yX7_init cX7_init 2 none, .methodLink RL 134 yX7_init, .classLink RL 135 RX8, .instantiable RX8 19, .initialized RX8, .instanceMethod yX8_init, .code yX8_init cX8_init 1 none, .methodLink RL 137 yX8_init] : List Cond), w ∈ gW := xin_ws (by decide +kernel)
theorem kL_mk7 : iNk RL 8 134 yX7_init cX7_init 2 RX7 TX7 10 7 [.null, .null, .null, .null, .null, .int 0, .int 0, .int 0, .int 0, .int 0] := ⟨rfl, rfl, rfl, inX7, ⟨tyX7, tyX7_ok, fun j hj => by
  obtain rfl | rfl | rfl | rfl | rfl | rfl | rfl | rfl | rfl | rfl : j = 0 ∨ j = 1 ∨ j = 2 ∨ j = 3 ∨ j = 4 ∨ j = 5 ∨ j = 6 ∨ j = 7 ∨ j = 8 ∨ j = 9 := by omega
  all_goals rfl⟩, (wI_law _ (List.mem_of_getElem? (i := 0) rfl)), (wI_law _ (List.mem_of_getElem? (i := 1) rfl)), (wI_law _ (List.mem_of_getElem? (i := 2) rfl)), (wI_law _ (List.mem_of_getElem? (i := 3) rfl)), (wI_law _ (List.mem_of_getElem? (i := 4) rfl)), ⟨by decide, by decide, by decide +kernel⟩⟩
theorem kL_mk8 : iNk RL 135 137 yX8_init cX8_init 1 RX8 TX8 19 8 [.int 0, .null, .null, .null, .null, .int 0, .int 0, .int 0, .null, .int 0, .int 0, .long 0, .null, .int 0, .int 0, .int 0, .null, .null, .int 0] := ⟨rfl, rfl, rfl, inX8, ⟨tyX8, tyX8_ok, fun j hj => by
  obtain rfl | rfl | rfl | rfl | rfl | rfl | rfl | rfl | rfl | rfl | rfl | rfl | rfl | rfl | rfl | rfl | rfl | rfl | rfl : j = 0 ∨ j = 1 ∨ j = 2 ∨ j = 3 ∨ j = 4 ∨ j = 5 ∨ j = 6 ∨ j = 7 ∨ j = 8 ∨ j = 9 ∨ j = 10 ∨ j = 11 ∨ j = 12 ∨ j = 13 ∨ j = 14 ∨ j = 15 ∨ j = 16 ∨ j = 17 ∨ j = 18 := by omega
  all_goals rfl⟩, (wI_law _ (List.mem_of_getElem? (i := 6) rfl)), (wI_law _ (List.mem_of_getElem? (i := 7) rfl)), (wI_law _ (List.mem_of_getElem? (i := 8) rfl)), (wI_law _ (List.mem_of_getElem? (i := 9) rfl)), (wI_law _ (List.mem_of_getElem? (i := 10) rfl)), ⟨by decide, by decide, by decide +kernel⟩⟩
section LNA
variable {κ : xKt} {A : Nat → Prop} {p : Program} {l : Launch} {e : Env} {R : Room} {s : State} {m : MethodId} {args : Array Value} {below : List Frame} {meth : Method} {c : Code} {H : Heap} {locs : List Loc} {cells slots : Nat} {Q : State → Prop}
variable {cc : ByteArray} {own : String} {nL : Nat} {pc : Nat} {ls : Array Slot} {rest : List Value} {ws : va_W}
theorem l_newJ (hcf : CallFix p m c cc nL s args gW own) (hK : va_K κ.1 xCls (xTys κ) s) (hA : ∀ q, s.heap.size ≤ q → A q) (hw : iW κ A s ws H locs) (harr : Cond.arrayClass .long ∈ gW) {n : Int32} {N : Nat} (hn : ¬ n < 0) (hN : n.toNatClampNeg = N) (hby : N * 8 ≤ 536870912) (hz : cells + 1 ≤ R.cells ∧ slots + N ≤ R.slots) (hdg : decode cc pc = .ok (.newarray .long, 2))
    (kk : ∀ (q : Nat) (H : Heap), iW κ A s (ws ++ [(q, .inl (xcJ κ, N, .inr (.inl (fun _ => 0))))]) H locs → W p l e R s m args below meth c H locs (cells + 1) (slots + N) Q (F0 m (pc + 2) ls (.ref q :: rest))) : W p l e R s m args below meth c H locs cells slots Q (F0 m pc ls (.int n :: rest)) := by
  obtain ⟨hx, hb, hml, hown, hts⟩ := hcf
  refine va_newa (atype := .long) hx hb (hts _ harr) (ty := .long) rfl hK hw.1 hw.2.1 hw.2.2 hA (N' := N) (a0 := (N, .inr (.inl (fun _ => 0)))) (fun _ => rfl) hn hN hby hz.1 hz.2 hdg (fun q cA H1 k1 k2 k3 k4 => ?_)
  have e1 : s.vm.findClass ("[" ++ FieldType.long.toString) = some cA := (k1.2 5 (cA, .long) rfl).2
  have e2 : s.vm.findClass ("[" ++ FieldType.long.toString) = some (xcJ κ) := (hK.2 1 (xcJ κ, .long) rfl).2
  obtain rfl : cA = xcJ κ := Option.some.inj (e1.symm.trans e2)
  exact kk q H1 ⟨k2, k3, k4⟩
theorem l_newD (hcf : CallFix p m c cc nL s args gW own) (hK : va_K κ.1 xCls (xTys κ) s) (hA : ∀ q, s.heap.size ≤ q → A q) (hw : iW κ A s ws H locs) (harr : Cond.arrayClass .double ∈ gW) {n : Int32} {N : Nat} (hn : ¬ n < 0) (hN : n.toNatClampNeg = N) (hby : N * 8 ≤ 536870912) (hz : cells + 1 ≤ R.cells ∧ slots + N ≤ R.slots) (hdg : decode cc pc = .ok (.newarray .double, 2))
    (kk : ∀ (q : Nat) (H : Heap), iW κ A s (ws ++ [(q, .inl (xcD κ, N, .inr (.inr (.inr (.inl (fun _ => 0))))))]) H locs → W p l e R s m args below meth c H locs (cells + 1) (slots + N) Q (F0 m (pc + 2) ls (.ref q :: rest))) : W p l e R s m args below meth c H locs cells slots Q (F0 m pc ls (.int n :: rest)) := by
  obtain ⟨hx, hb, hml, hown, hts⟩ := hcf
  refine va_newa (atype := .double) hx hb (hts _ harr) (ty := .double) rfl hK hw.1 hw.2.1 hw.2.2 hA (N' := N) (a0 := (N, .inr (.inr (.inr (.inl (fun _ => 0)))))) (fun _ => rfl) hn hN hby hz.1 hz.2 hdg (fun q cA H1 k1 k2 k3 k4 => ?_)
  have e1 : s.vm.findClass ("[" ++ FieldType.double.toString) = some cA := (k1.2 5 (cA, .double) rfl).2
  have e2 : s.vm.findClass ("[" ++ FieldType.double.toString) = some (xcD κ) := (hK.2 3 (xcD κ, .double) rfl).2
  obtain rfl : cA = xcD κ := Option.some.inj (e1.symm.trans e2)
  exact kk q H1 ⟨k2, k3, k4⟩
end LNA
theorem law_entry {l : Launch} {κ : xKt} {p : Program} {e : Env} {s : State} {m : MethodId} {args : Array Value} {below : List Frame} {meth : Method} {c : Code} {Q : State → Prop} {b L : Nat} {xs : Nat → Int32} (hcf : CallFix p m c cL_law 9 s args gW RL) (hr : meth.sig.returnType = some .boolean) (hlk : meth.locks = false) (hK : va_K κ.1 xCls (xTys κ) s) (hEn : iEn s) (hSt : xSt κ (fun q => s.heap.size ≤ q) s s.heap) (hlt : l.stackTraces = false) (hX : va_X b L xs s s.heap) (hbl : b < s.heap.size) (hL : L ≤ 2048) (KE : ∀ (H : Heap) (locs : List Loc) (ls : Array Slot), va_S (fun q => s.heap.size ≤ q) s.heap H locs → W p l e room_1 s m args below meth c H locs 603072 7182442 Q (F0 m 2373 ls [])) (ls : Array Slot) (hl : lv_has ls 9 [(0, .ref b)]) : W p l e room_1 s m args below meth c s.heap [] 0 0 Q (F0 m 0 ls []) := by
  have hx := hcf.1
  have hb := hcf.2.1
  have hA : ∀ q, s.heap.size ≤ q → (fun q => s.heap.size ≤ q) q := fun q h => h
  have hw : iW κ (fun q => s.heap.size ≤ q) s [] s.heap [] := ⟨fun k q hk => (by cases hk), ⟨fun i j x y hi => (by cases hi), fun k q hk => (by cases hk)⟩, va_S.rf⟩
  refine i_mk hcf hK hA ⟨hEn, hSt.2.2.2.2⟩ hw hl.1 kL_mk7 (iX7_init l κ) (.inr (wI_law _ (List.mem_of_getElem? (i := 5) rfl))) ⟨rfl, rfl⟩ ⟨by decide, by decide⟩ ⟨by decide, by decide⟩ (Nat.le_of_ble_eq_true rfl) dL_law_0 dL_law_3 dL_law_4 (fun g7 H locs hw => ?_)
  refine lv_astore_n (lv' := [(1, .ref (g7 0)), (0, .ref b)]) hx hb dL_law_7 rfl hl (by decide) rfl (fun ls hl => ?_)
  refine i_mk hcf hK hA ⟨hEn, hSt.2.2.2.2⟩ hw hl.1 kL_mk8 (iX8_init l κ) (.inr (wI_law _ (List.mem_of_getElem? (i := 11) rfl))) ⟨rfl, rfl⟩ ⟨by decide, by decide⟩ ⟨by decide, by decide⟩ (Nat.le_of_ble_eq_true rfl) dL_law_8 dL_law_11 dL_law_12 (fun g8 H locs hw => ?_)
  refine lv_astore_n (lv' := [(2, .ref (g8 0)), (1, .ref (g7 0)), (0, .ref b)]) hx hb dL_law_15 rfl hl (by decide) rfl (fun ls hl => ?_)
  refine lv_iconst (v := 1) hx hb dL_law_16 (by decide) ?_
  refine l_newJ hcf hK hA hw (wI_all _ (List.mem_of_getElem? (i := 12) rfl)) (by decide) rfl (by decide) ⟨by decide, by decide⟩ dL_law_17 (fun qo H hw => ?_)
  refine lv_astore_n (lv' := [(3, .ref qo), (2, .ref (g8 0)), (1, .ref (g7 0)), (0, .ref b)]) hx hb dL_law_19 rfl hl (by decide) rfl (fun ls hl => ?_)
  refine lv_iconst (v := 1) hx hb dL_law_20 (by decide) ?_
  refine l_newD hcf hK hA hw (wI_all _ (List.mem_of_getElem? (i := 14) rfl)) (by decide) rfl (by decide) ⟨by decide, by decide⟩ dL_law_21 (fun qv H hw => ?_)
  refine lv_astore (lv' := [(4, .ref qv), (3, .ref qo), (2, .ref (g8 0)), (1, .ref (g7 0)), (0, .ref b)]) hx hb dL_law_23 hl (by decide) rfl (fun ls hl => ?_)
  refine lv_iconst (v := 0) hx hb dL_law_25 (by decide) ?_
  refine lv_istore (lv' := [(5, .int 0), (4, .ref qv), (3, .ref qo), (2, .ref (g8 0)), (1, .ref (g7 0)), (0, .ref b)]) hx hb dL_law_26 hl (by decide) rfl (fun ls hl => ?_)
  have hw : iW κ (fun q => s.heap.size ≤ q) s (lW κ g7 g8 qo qv) H locs := hw
  obtain ⟨hi, hj⟩ := l_inj hw.2.1
  have hc : xC (lK κ g7 g8 qo qv) (fun q => s.heap.size ≤ q) p s m args meth c cL_law RL 9 (some .boolean) := ⟨hcf, hr, hlk, hK, hSt, hA, hi, hj, hEn.1⟩
  have hl2 : lv_has ls 9 [(0, .ref b), (1, .ref (xAd (lK κ g7 g8 qo qv) 234)), (2, .ref (xAd (lK κ g7 g8 qo qv) 245)), (3, .ref (xAd (lK κ g7 g8 qo qv) 254)), (4, .ref (xAd (lK κ g7 g8 qo qv) 255)), (5, .int (nI (4 * 0)))] := lv_sub hl [5, 4, 3, 2, 1, 0] rfl
  refine W.widen (k := 256 + 0) (n := 6189 + 6 * 0) (by decide) (by decide) ?_
  refine law_loop (c0 := 256) (s0 := 6189) hc hlt hX hbl (Nat.not_le.mpr hbl) hL ⟨by decide, by decide⟩ (fun H locs ls hS => W.widen (by decide) (by decide) (KE H locs ls hS)) L 0 (by omega) (by omega) lZ ?_ H locs ls ⟨l_world hw.1, hw.2.2⟩ hl2
  exact l_start
