-- the loop of the law
def LWS (K : Int) (σ : sW) : Prop := ∃ (A : Nat → sAcc) (P : sPar) (C : sCla) (D : sDeb) (J : sJou) (r : xF32) (t : xF32) (d : Int32) (g : Int32) (T0 : Int32) (T1 : xF32) (T2 : Int32) (T3 : Int32) (T4 : Int32) (T5 : xF32) (T6 : xF32) (T7 : xF32) (T8 : xF32) (G0 : Int32) (G1 : xF32) (G2 : xF32) (M0 : Int32) (M1 : Int32) (M2 : Int32) (M3 : Int32) (M4 : Int32) (F0 : Int32) (F1 : xF64) (F2 : xF64) (F3 : xF64) (F4 : xF64) (F5 : Int32) (F6 : Int32) (F7 : Int32) (F8 : xF32) (F9 : Int32) (F10 : Int32) (F11 : Int64) (F12 : xF32) (F13 : Int32) (F14 : Int32) (F15 : Int32) (F16 : xF32) (F17 : xF32) (F18 : Int32) (o : xF64) (v : Nat → UInt64), σ = (upA A 0 (P, C, D, J, r, t, d, g), (T0, T1, T2, T3, T4, T5, T6, T7, T8), (G0, G1, G2), (M0, M1, M2, M3, M4), (F0, F1, F2, F3, F4, F5, F6, F7, F8, F9, F10, F11, F12, F13, F14, F15, F16, F17, F18), o, v) ∧ RR K A (P, C, D, J, r, t, d, g) T0 T1 M0 M1 M2 M3 M4 F1 F2 F4 F5 F6 F7 F8 F9 F10
theorem law_key (x : Int32) : x.toInt < 0 ∨ 38 < x.toInt ∨ ∃ k, k ≤ 38 ∧ x = nI k := by
  by_cases h : x.toInt < 0
  · exact .inl h
  · by_cases h2 : 38 < x.toInt
    · exact .inr (.inl h2)
    · refine .inr (.inr ⟨x.toInt.toNat, by omega, ?_⟩)
      rw [y_eq32, nI_toInt (by omega)]
      omega
theorem law_at (t L : Nat) (h : 4 * t + 4 ≤ L) (hL : L ≤ 2048) (j : Nat) (hj : j < 4) : vp_in (nI (4 * t + j)) L := by
  intro q
  rcases q with q | q
  · exact nI_pos (by omega) q
  · rw [y_cl (by omega)] at q
    omega
theorem law_39 {k : Nat} (h : k ≤ 38) : k = 0 ∨ k = 1 ∨ k = 2 ∨ k = 3 ∨ k = 4 ∨ k = 5 ∨ k = 6 ∨ k = 7 ∨ k = 8 ∨ k = 9 ∨ k = 10 ∨ k = 11 ∨ k = 12 ∨ k = 13 ∨ k = 14 ∨ k = 15 ∨ k = 16 ∨ k = 17 ∨ k = 18 ∨ k = 19 ∨ k = 20 ∨ k = 21 ∨ k = 22 ∨ k = 23 ∨ k = 24 ∨ k = 25 ∨ k = 26 ∨ k = 27 ∨ k = 28 ∨ k = 29 ∨ k = 30 ∨ k = 31 ∨ k = 32 ∨ k = 33 ∨ k = 34 ∨ k = 35 ∨ k = 36 ∨ k = 37 ∨ k = 38 := by omega
theorem law_end {L t : Nat} (hL : L ≤ 2048) (ht : t ≤ 512) : Int32.ofNat L - 4 < nI (4 * t) ↔ L < 4 * t + 4 := by
  have e : Int32.ofNat L = nI L := rfl
  have e4 : (4 : Int32).toInt = 4 := rfl
  have eL : (nI L).toInt = (L : Int) := nI_toInt (by omega)
  rw [e, y_lt32, y_sub (by rw [eL, e4]; omega) (by rw [eL, e4]; omega), eL, e4, nI_toInt (by omega)]
  omega
theorem law_loop {l : Launch} {κ : xKt} {B : Nat → Prop} {p : Program} {e : Env} {s : State} {m : MethodId} {args : Array Value} {below : List Frame} {meth : Method} {c : Code} {Q : State → Prop} {b L c0 s0 : Nat} {xs : Nat → Int32} (hc : xC κ B p s m args meth c cL_law RL 9 (some .boolean)) (hlt : l.stackTraces = false) (hX : va_X b L xs s s.heap) (hbl : b < s.heap.size) (hbA : ¬ B b) (hL : L ≤ 2048) (hz : c0 + 513 ≤ room_1.cells ∧ s0 + 3078 ≤ room_1.slots) (KE : ∀ (H : Heap) (locs : List Loc) (ls : Array Slot), va_S B s.heap H locs → W p l e room_1 s m args below meth c H locs (c0 + 512) (s0 + 3072) Q (F0 m 2373 ls [])) : ∀ n ti : Nat, L ≤ 4 * ti + n → ti ≤ 512 → ∀ (σ : sW), LWS (35 * (ti : Int)) σ → ∀ (H : Heap) (locs : List Loc) (ls : Array Slot), xW κ B s σ H locs → lv_has ls 9 [(0, .ref b), (1, .ref (xAd κ 234)), (2, .ref (xAd κ 245)), (3, .ref (xAd κ 254)), (4, .ref (xAd κ 255)), (5, .int (nI (4 * ti)))] → W p l e room_1 s m args below meth c H locs (c0 + ti) (s0 + 6 * ti) Q (F0 m 28 ls []) := by
  have hx := hc.1.1
  have hb := hc.1.2.1
  intro n
  induction n with
  | zero =>
    intro ti hn ht σ hσ H locs ls hw hl
    have hgt : Int32.ofNat L - 4 < nI (4 * ti) := (law_end hL ht).mpr (by omega)
    refine lv_iload hx hb dL_law_28 (lv_at hl 5 rfl) ?_
    refine lv_aload_n hx hb dL_law_30 rfl (lv_at hl 0 rfl) ?_
    refine va_slen hx hb hX hbl hbA hw.2 dL_law_31 ?_
    refine lv_iconst (v := 4) hx hb dL_law_32 (by decide) ?_
    refine lv_isub hx hb dL_law_33 ?_
    refine lv_icmp_gt (tgt := 2373) hx hb dL_law_34 (by decide) (fun _ => ?_) (fun q => absurd hgt q)
    exact W.widen (by omega) (by omega) (KE H locs ls hw.2)
  | succ n ih =>
    intro ti hn ht σ hσ H locs ls hw hl
    refine lv_iload hx hb dL_law_28 (lv_at hl 5 rfl) ?_
    refine lv_aload_n hx hb dL_law_30 rfl (lv_at hl 0 rfl) ?_
    refine va_slen hx hb hX hbl hbA hw.2 dL_law_31 ?_
    refine lv_iconst (v := 4) hx hb dL_law_32 (by decide) ?_
    refine lv_isub hx hb dL_law_33 ?_
    refine lv_icmp_gt (tgt := 2373) hx hb dL_law_34 (by decide) (fun _ => ?_) (fun hgt => ?_)
    · exact W.widen (by omega) (by omega) (KE H locs ls hw.2)
    have h4 : 4 * ti + 4 ≤ L := by
      by_cases h4 : 4 * ti + 4 ≤ L
      · exact h4
      · exact absurd ((law_end hL ht).mpr (by omega)) hgt
    have next : ∀ (σ : sW), LWS (35 * (ti : Int) + 35) σ → ∀ (H : Heap) (locs : List Loc) (ls : Array Slot), xW κ B s σ H locs → lv_has ls 9 [(0, .ref b), (1, .ref (xAd κ 234)), (2, .ref (xAd κ 245)), (3, .ref (xAd κ 254)), (4, .ref (xAd κ 255)), (5, .int (nI (4 * ti)))] → W p l e room_1 s m args below meth c H locs (c0 + ti + 1) (s0 + 6 * ti + 6) Q (F0 m 2367 ls []) := by
      intro σ hσ H locs ls hw hl
      refine lv_iinc (v := nI (4 * (ti + 1))) (lv' := [(5, .int (nI (4 * (ti + 1)))), (0, .ref b), (1, .ref (xAd κ 234)), (2, .ref (xAd κ 245)), (3, .ref (xAd κ 254)), (4, .ref (xAd κ 255))]) hx hb dL_law_2367 hl (k := 5) rfl (nI_add (4 * ti) 4) (by decide) rfl (fun ls' hl' => ?_)
      refine lv_goto (tgt := 28) hx hb dL_law_2370 (by decide) ?_
      exact ih (ti + 1) (by omega) (by omega) σ (by rw [show (35 * ((ti + 1 : Nat) : Int)) = 35 * (ti : Int) + 35 by omega]; exact hσ) H locs ls' hw ⟨hl'.1, hl'.2.1, fun q hq => hl'.2.2 q (by
        simp only [List.mem_cons, List.not_mem_nil, or_false] at hq
        rcases hq with hq | hq | hq | hq | hq | hq <;> subst hq <;> simp)⟩
    have hz0 : c0 + ti ≤ room_1.cells ∧ s0 + 6 * ti ≤ room_1.slots := ⟨by omega, by omega⟩
    have hz1 : c0 + ti + 1 ≤ room_1.cells ∧ s0 + 6 * ti + 6 ≤ room_1.slots := ⟨by omega, by omega⟩
    have i0 : vp_in (nI (4 * ti)) L := law_at ti L h4 hL 0 (by omega)
    have i1 : vp_in (nI (4 * ti) + 1) L := by rw [nI_1]; exact law_at ti L h4 hL 1 (by omega)
    have i2 : vp_in (nI (4 * ti) + 2) L := by rw [show nI (4 * ti) + 2 = nI (4 * ti + 2) from nI_add _ 2]; exact law_at ti L h4 hL 2 (by omega)
    have i3 : vp_in (nI (4 * ti) + 3) L := by rw [show nI (4 * ti) + 3 = nI (4 * ti + 3) from nI_add _ 3]; exact law_at ti L h4 hL 3 (by omega)
    have hK0 : 0 ≤ 35 * (ti : Int) := by omega
    have hK : 35 * (ti : Int) ≤ 17885 := by omega
    refine lv_aload_n hx hb dL_law_37 rfl (lv_at hl 0 rfl) ?_
    refine lv_iload hx hb dL_law_38 (lv_at hl 5 rfl) ?_
    refine va_sld hx hb hX hbl hbA hw.2 i0 dL_law_40 ?_
    refine lv_bipush (v := 63) hx hb dL_law_41 (by decide) ?_
    refine lv_iand hx hb dL_law_43 ?_
    generalize xs (nI (4 * ti)).toNatClampNeg &&& 63 = key
    obtain ⟨a1, ha1⟩ : ∃ a1, xs (nI (4 * ti) + 1).toNatClampNeg = a1 := ⟨_, rfl⟩
    obtain ⟨a2, ha2⟩ : ∃ a2, xs (nI (4 * ti) + 2).toNatClampNeg = a2 := ⟨_, rfl⟩
    obtain ⟨a3, ha3⟩ : ∃ a3, xs (nI (4 * ti) + 3).toNatClampNeg = a3 := ⟨_, rfl⟩
    obtain ⟨A, P, C, D, J, r, t, d, g, T0, T1, T2, T3, T4, T5, T6, T7, T8, G0, G1, G2, M0, M1, M2, M3, M4, F0, F1, F2, F3, F4, F5, F6, F7, F8, F9, F10, F11, F12, F13, F14, F15, F16, F17, F18, o, v, rfl, hR⟩ := hσ
    have hR35 := hR.mono (L := 35 * (ti : Int) + 35) (by omega)
    rcases law_key key with hk | hk | ⟨k, hk, rfl⟩
    · exact x_tabD (tgt := 2367) hx hb dL_law_44 (.inl hk) (by decide) (W.widen (by omega) (by omega) (next _ ⟨A, P, C, D, J, r, t, d, g, T0, T1, T2, T3, T4, T5, T6, T7, T8, G0, G1, G2, M0, M1, M2, M3, M4, F0, F1, F2, F3, F4, F5, F6, F7, F8, F9, F10, F11, F12, F13, F14, F15, F16, F17, F18, o, v, rfl, hR35⟩ H locs ls hw hl))
    · exact x_tabD (tgt := 2367) hx hb dL_law_44 (.inr (.inl hk)) (by decide) (W.widen (by omega) (by omega) (next _ ⟨A, P, C, D, J, r, t, d, g, T0, T1, T2, T3, T4, T5, T6, T7, T8, G0, G1, G2, M0, M1, M2, M3, M4, F0, F1, F2, F3, F4, F5, F6, F7, F8, F9, F10, F11, F12, F13, F14, F15, F16, F17, F18, o, v, rfl, hR35⟩ H locs ls hw hl))
    obtain rfl | rfl | rfl | rfl | rfl | rfl | rfl | rfl | rfl | rfl | rfl | rfl | rfl | rfl | rfl | rfl | rfl | rfl | rfl | rfl | rfl | rfl | rfl | rfl | rfl | rfl | rfl | rfl | rfl | rfl | rfl | rfl | rfl | rfl | rfl | rfl | rfl | rfl | rfl := law_39 hk
    · refine x_tabI (k := nI 0) (off := 172) (tgt := 216) hx hb dL_law_44 rfl (by decide) (by decide) (by decide) ?_
      obtain ⟨P', C', D', J', r', t', d', g', M2', F0', F1', F5', hf, hR2⟩ := s_0 hK0 (by omega) hR (fu := 80000) (by omega) F0
      exact q_0 hc hlt hX hbl hbA i1 i2 i3 ha1 ha2 ha3 hz0 hz1 hf (fun H locs ls hw hl => next _ ⟨A, P', C', D', J', r', t', d', g', T0, T1, T2, T3, T4, T5, T6, T7, T8, G0, G1, G2, M0, M1, M2', M3, M4, F0', F1', F2, F3, F4, F5', F6, F7, F8, F9, F10, F11, F12, F13, F14, F15, F16, F17, F18, o, v, rfl, hR2.mono (by omega)⟩ H locs ls hw hl) H locs ls hw hl
    · refine x_tabI (k := nI 1) (off := 185) (tgt := 229) hx hb dL_law_44 rfl (by decide) (by decide) (by decide) ?_
      obtain ⟨A', P', M1', M2', F0', F1', F3', F4', F5', o', hf, hR2⟩ := s_1 hK0 (by omega) hR (fu := 80000) (by omega) a1 a2 F0 F3 o
      exact q_1 hc hlt hX hbl hbA i1 i2 i3 ha1 ha2 ha3 hz0 hz1 hf (fun H locs ls hw hl => next _ ⟨A', P', C, D, J, r, t, d, g, T0, T1, T2, T3, T4, T5, T6, T7, T8, G0, G1, G2, M0, M1', M2', M3, M4, F0', F1', F2, F3', F4', F5', F6, F7, F8, F9, F10, F11, F12, F13, F14, F15, F16, F17, F18, o', v, rfl, hR2.mono (by omega)⟩ H locs ls hw hl) H locs ls hw hl
    · refine x_tabI (k := nI 2) (off := 253) (tgt := 297) hx hb dL_law_44 rfl (by decide) (by decide) (by decide) ?_
      obtain ⟨A', r', M1', M2', M3', F0', F1', F3', F4', F5', o', hf, hR2⟩ := s_2 hK0 (by omega) hR (fu := 80000) (by omega) a1 a2 F0 F3 o
      exact q_2 hc hlt hX hbl hbA i1 i2 i3 ha1 ha2 ha3 hz0 hz1 hf (fun H locs ls hw hl => next _ ⟨A', P, C, D, J, r', t, d, g, T0, T1, T2, T3, T4, T5, T6, T7, T8, G0, G1, G2, M0, M1', M2', M3', M4, F0', F1', F2, F3', F4', F5', F6, F7, F8, F9, F10, F11, F12, F13, F14, F15, F16, F17, F18, o', v, rfl, hR2.mono (by omega)⟩ H locs ls hw hl) H locs ls hw hl
    · refine x_tabI (k := nI 3) (off := 321) (tgt := 365) hx hb dL_law_44 rfl (by decide) (by decide) (by decide) ?_
      obtain ⟨A', t', M1', M2', M3', F0', F1', F3', F4', F5', o', hf, hR2⟩ := s_3 hK0 (by omega) hR (fu := 80000) (by omega) a1 a2 F0 F3 o
      exact q_3 hc hlt hX hbl hbA i1 i2 i3 ha1 ha2 ha3 hz0 hz1 hf (fun H locs ls hw hl => next _ ⟨A', P, C, D, J, r, t', d, g, T0, T1, T2, T3, T4, T5, T6, T7, T8, G0, G1, G2, M0, M1', M2', M3', M4, F0', F1', F2, F3', F4', F5', F6, F7, F8, F9, F10, F11, F12, F13, F14, F15, F16, F17, F18, o', v, rfl, hR2.mono (by omega)⟩ H locs ls hw hl) H locs ls hw hl
    · refine x_tabI (k := nI 4) (off := 389) (tgt := 433) hx hb dL_law_44 rfl (by decide) (by decide) (by decide) ?_
      obtain ⟨F0', o', hf⟩ := s_4 hK0 (by omega) hR.1 (fu := 80000) (by omega) a1 a2 M3 F0 o
      exact q_4 hc hlt hX hbl hbA i1 i2 i3 ha1 ha2 ha3 hz0 hz1 hf (fun H locs ls hw hl => next _ ⟨A, P, C, D, J, r, t, d, g, T0, T1, T2, T3, T4, T5, T6, T7, T8, G0, G1, G2, M0, M1, M2, M3, M4, F0', F1, F2, F3, F4, F5, F6, F7, F8, F9, F10, F11, F12, F13, F14, F15, F16, F17, F18, o', v, rfl, hR35⟩ H locs ls hw hl) H locs ls hw hl
    · refine x_tabI (k := nI 5) (off := 456) (tgt := 500) hx hb dL_law_44 rfl (by decide) (by decide) (by decide) ?_
      obtain ⟨A', C', M1', M2', M3', F0', F1', F3', F4', F5', F11', o', hf, hR2⟩ := s_5 hK0 (by omega) hR (fu := 80000) (by omega) a1 a2 a3 F0 F3 F11 o
      exact q_5 hc hlt hX hbl hbA i1 i2 i3 ha1 ha2 ha3 hz0 hz1 hf (fun H locs ls hw hl => next _ ⟨A', P, C', D, J, r, t, d, g, T0, T1, T2, T3, T4, T5, T6, T7, T8, G0, G1, G2, M0, M1', M2', M3', M4, F0', F1', F2, F3', F4', F5', F6, F7, F8, F9, F10, F11', F12, F13, F14, F15, F16, F17, F18, o', v, rfl, hR2.mono (by omega)⟩ H locs ls hw hl) H locs ls hw hl
    · refine x_tabI (k := nI 6) (off := 536) (tgt := 580) hx hb dL_law_44 rfl (by decide) (by decide) (by decide) ?_
      obtain ⟨A', C', D', J', M1', M2', M3', F0', F1', F3', F4', F5', F7', F11', o', hf, hR2⟩ := s_6 hK0 (by omega) hR (fu := 80000) (by omega) a1 a2 F0 F3 F11 o
      exact q_6 hc hlt hX hbl hbA i1 i2 i3 ha1 ha2 ha3 hz0 hz1 hf (fun H locs ls hw hl => next _ ⟨A', P, C', D', J', r, t, d, g, T0, T1, T2, T3, T4, T5, T6, T7, T8, G0, G1, G2, M0, M1', M2', M3', M4, F0', F1', F2, F3', F4', F5', F6, F7', F8, F9, F10, F11', F12, F13, F14, F15, F16, F17, F18, o', v, rfl, hR2.mono (by omega)⟩ H locs ls hw hl) H locs ls hw hl
    · refine x_tabI (k := nI 7) (off := 604) (tgt := 648) hx hb dL_law_44 rfl (by decide) (by decide) (by decide) ?_
      obtain ⟨A', C', J', M1', M2', M3', F0', F1', F3', F4', F5', F7', F11', o', hf, hR2⟩ := s_7 hK0 (by omega) hR (fu := 80000) (by omega) a1 a2 F0 F3 F11 o
      exact q_7 hc hlt hX hbl hbA i1 i2 i3 ha1 ha2 ha3 hz0 hz1 hf (fun H locs ls hw hl => next _ ⟨A', P, C', D, J', r, t, d, g, T0, T1, T2, T3, T4, T5, T6, T7, T8, G0, G1, G2, M0, M1', M2', M3', M4, F0', F1', F2, F3', F4', F5', F6, F7', F8, F9, F10, F11', F12, F13, F14, F15, F16, F17, F18, o', v, rfl, hR2.mono (by omega)⟩ H locs ls hw hl) H locs ls hw hl
    · refine x_tabI (k := nI 8) (off := 672) (tgt := 716) hx hb dL_law_44 rfl (by decide) (by decide) (by decide) ?_
      obtain ⟨A', C', J', M1', M2', M3', F0', F1', F3', F4', F5', F7', F11', o', hf, hR2⟩ := s_8 hK0 (by omega) hR (fu := 80000) (by omega) a1 a2 F0 F3 F11 o
      exact q_8 hc hlt hX hbl hbA i1 i2 i3 ha1 ha2 ha3 hz0 hz1 hf (fun H locs ls hw hl => next _ ⟨A', P, C', D, J', r, t, d, g, T0, T1, T2, T3, T4, T5, T6, T7, T8, G0, G1, G2, M0, M1', M2', M3', M4, F0', F1', F2, F3', F4', F5', F6, F7', F8, F9, F10, F11', F12, F13, F14, F15, F16, F17, F18, o', v, rfl, hR2.mono (by omega)⟩ H locs ls hw hl) H locs ls hw hl
    · refine x_tabI (k := nI 9) (off := 740) (tgt := 784) hx hb dL_law_44 rfl (by decide) (by decide) (by decide) ?_
      obtain ⟨F0', o', hf⟩ := s_9 hK0 (by omega) hR.1 (fu := 80000) (by omega) a1 a2 M3 F0 o
      exact q_9 hc hlt hX hbl hbA i1 i2 i3 ha1 ha2 ha3 hz0 hz1 hf (fun H locs ls hw hl => next _ ⟨A, P, C, D, J, r, t, d, g, T0, T1, T2, T3, T4, T5, T6, T7, T8, G0, G1, G2, M0, M1, M2, M3, M4, F0', F1, F2, F3, F4, F5, F6, F7, F8, F9, F10, F11, F12, F13, F14, F15, F16, F17, F18, o', v, rfl, hR35⟩ H locs ls hw hl) H locs ls hw hl
    · refine x_tabI (k := nI 10) (off := 808) (tgt := 852) hx hb dL_law_44 rfl (by decide) (by decide) (by decide) ?_
      obtain ⟨F0', o', hf⟩ := s_10 hR.2.2.2.1 80000 F0 o
      exact q_10 hc hlt hX hbl hbA i1 i2 i3 ha1 ha2 ha3 hz0 hz1 hf (fun H locs ls hw hl => next _ ⟨A, P, C, D, J, r, t, d, g, T0, T1, T2, T3, T4, T5, T6, T7, T8, G0, G1, G2, M0, M1, M2, M3, M4, F0', F1, F2, F3, F4, F5, F6, F7, F8, F9, F10, F11, F12, F13, F14, F15, F16, F17, F18, o', v, rfl, hR35⟩ H locs ls hw hl) H locs ls hw hl
    · refine x_tabI (k := nI 11) (off := 852) (tgt := 896) hx hb dL_law_44 rfl (by decide) (by decide) (by decide) ?_
      obtain ⟨F0', hf⟩ := s_11 hK0 (by omega) hR.1 (fu := 80000) (by omega) F0
      exact q_11 hc hlt hX hbl hbA i1 i2 i3 ha1 ha2 ha3 hz0 hz1 hf (fun H locs ls hw hl => next _ ⟨A, P, C, D, J, r, t, d, g, T0, T1, T2, T3, T4, T5, T6, T7, T8, G0, G1, G2, M0, M1, M2, M3, M4, F0', F1, F2, F3, F4, F5, F6, F7, F8, F9, F10, F11, F12, F13, F14, F15, F16, F17, F18, o, v, rfl, hR35⟩ H locs ls hw hl) H locs ls hw hl
    · refine x_tabI (k := nI 12) (off := 866) (tgt := 910) hx hb dL_law_44 rfl (by decide) (by decide) (by decide) ?_
      obtain ⟨F0', o', hf⟩ := s_12 hK0 (by omega) hR.1 (fu := 80000) (by omega) a1 F0 o
      exact q_12 hc hlt hX hbl hbA i1 i2 i3 ha1 ha2 ha3 hz0 hz1 hf (fun H locs ls hw hl => next _ ⟨A, P, C, D, J, r, t, d, g, T0, T1, T2, T3, T4, T5, T6, T7, T8, G0, G1, G2, M0, M1, M2, M3, M4, F0', F1, F2, F3, F4, F5, F6, F7, F8, F9, F10, F11, F12, F13, F14, F15, F16, F17, F18, o', v, rfl, hR35⟩ H locs ls hw hl) H locs ls hw hl
    · refine x_tabI (k := nI 13) (off := 921) (tgt := 965) hx hb dL_law_44 rfl (by decide) (by decide) (by decide) ?_
      obtain ⟨F0', o', hf⟩ := s_13 hK0 (by omega) hR.1 (fu := 80000) (by omega) a1 F0 o
      exact q_13 hc hlt hX hbl hbA i1 i2 i3 ha1 ha2 ha3 hz0 hz1 hf (fun H locs ls hw hl => next _ ⟨A, P, C, D, J, r, t, d, g, T0, T1, T2, T3, T4, T5, T6, T7, T8, G0, G1, G2, M0, M1, M2, M3, M4, F0', F1, F2, F3, F4, F5, F6, F7, F8, F9, F10, F11, F12, F13, F14, F15, F16, F17, F18, o', v, rfl, hR35⟩ H locs ls hw hl) H locs ls hw hl
    · refine x_tabI (k := nI 14) (off := 976) (tgt := 1020) hx hb dL_law_44 rfl (by decide) (by decide) (by decide) ?_
      obtain ⟨F0', o', hf⟩ := s_14 hK0 (by omega) hR.1 (fu := 80000) (by omega) a1 a2 M3 F0 o
      exact q_14 hc hlt hX hbl hbA i1 i2 i3 ha1 ha2 ha3 hz0 hz1 hf (fun H locs ls hw hl => next _ ⟨A, P, C, D, J, r, t, d, g, T0, T1, T2, T3, T4, T5, T6, T7, T8, G0, G1, G2, M0, M1, M2, M3, M4, F0', F1, F2, F3, F4, F5, F6, F7, F8, F9, F10, F11, F12, F13, F14, F15, F16, F17, F18, o', v, rfl, hR35⟩ H locs ls hw hl) H locs ls hw hl
    · refine x_tabI (k := nI 15) (off := 1043) (tgt := 1087) hx hb dL_law_44 rfl (by decide) (by decide) (by decide) ?_
      obtain ⟨A', P', J', M1', M2', F0', F1', F3', F4', F5', o', hf, hR2⟩ := s_15 hK0 (by omega) hR (fu := 80000) (by omega) a1 F0 F3 o
      exact q_15 hc hlt hX hbl hbA i1 i2 i3 ha1 ha2 ha3 hz0 hz1 hf (fun H locs ls hw hl => next _ ⟨A', P', C, D, J', r, t, d, g, T0, T1, T2, T3, T4, T5, T6, T7, T8, G0, G1, G2, M0, M1', M2', M3, M4, F0', F1', F2, F3', F4', F5', F6, F7, F8, F9, F10, F11, F12, F13, F14, F15, F16, F17, F18, o', v, rfl, hR2.mono (by omega)⟩ H locs ls hw hl) H locs ls hw hl
    · refine x_tabI (k := nI 16) (off := 1098) (tgt := 1142) hx hb dL_law_44 rfl (by decide) (by decide) (by decide) ?_
      obtain ⟨A', P', J', M1', M2', M3', F0', F1', F3', F4', F5', F11', o', hf, hR2⟩ := s_16 hK0 (by omega) hR (fu := 80000) (by omega) a1 a2 F0 F3 F11 o
      exact q_16 hc hlt hX hbl hbA i1 i2 i3 ha1 ha2 ha3 hz0 hz1 hf (fun H locs ls hw hl => next _ ⟨A', P', C, D, J', r, t, d, g, T0, T1, T2, T3, T4, T5, T6, T7, T8, G0, G1, G2, M0, M1', M2', M3', M4, F0', F1', F2, F3', F4', F5', F6, F7, F8, F9, F10, F11', F12, F13, F14, F15, F16, F17, F18, o', v, rfl, hR2.mono (by omega)⟩ H locs ls hw hl) H locs ls hw hl
    · refine x_tabI (k := nI 17) (off := 1165) (tgt := 1209) hx hb dL_law_44 rfl (by decide) (by decide) (by decide) ?_
      obtain ⟨A', P', D', J', M1', M2', M3', F0', F1', F3', F4', F5', o', hf, hR2⟩ := s_17 hK0 (by omega) hR (fu := 80000) (by omega) a1 a2 F0 F3 o
      exact q_17 hc hlt hX hbl hbA i1 i2 i3 ha1 ha2 ha3 hz0 hz1 hf (fun H locs ls hw hl => next _ ⟨A', P', C, D', J', r, t, d, g, T0, T1, T2, T3, T4, T5, T6, T7, T8, G0, G1, G2, M0, M1', M2', M3', M4, F0', F1', F2, F3', F4', F5', F6, F7, F8, F9, F10, F11, F12, F13, F14, F15, F16, F17, F18, o', v, rfl, hR2.mono (by omega)⟩ H locs ls hw hl) H locs ls hw hl
    · refine x_tabI (k := nI 18) (off := 1232) (tgt := 1276) hx hb dL_law_44 rfl (by decide) (by decide) (by decide) ?_
      obtain ⟨A', P', J', M1', M2', F0', F1', F3', F4', F5', hf, hR2⟩ := s_18 hK0 (by omega) hR (fu := 80000) (by omega) F0 F3
      exact q_18 hc hlt hX hbl hbA i1 i2 i3 ha1 ha2 ha3 hz0 hz1 hf (fun H locs ls hw hl => next _ ⟨A', P', C, D, J', r, t, d, g, T0, T1, T2, T3, T4, T5, T6, T7, T8, G0, G1, G2, M0, M1', M2', M3, M4, F0', F1', F2, F3', F4', F5', F6, F7, F8, F9, F10, F11, F12, F13, F14, F15, F16, F17, F18, o, v, rfl, hR2.mono (by omega)⟩ H locs ls hw hl) H locs ls hw hl
    · refine x_tabI (k := nI 19) (off := 1246) (tgt := 1290) hx hb dL_law_44 rfl (by decide) (by decide) (by decide) ?_
      obtain ⟨A', P', J', M1', M2', M3', F0', F1', F3', F4', F5', F7', o', hf, hR2⟩ := s_19 hK0 (by omega) hR (fu := 80000) (by omega) F0 F3 o
      exact q_19 hc hlt hX hbl hbA i1 i2 i3 ha1 ha2 ha3 hz0 hz1 hf (fun H locs ls hw hl => next _ ⟨A', P', C, D, J', r, t, d, g, T0, T1, T2, T3, T4, T5, T6, T7, T8, G0, G1, G2, M0, M1', M2', M3', M4, F0', F1', F2, F3', F4', F5', F6, F7', F8, F9, F10, F11, F12, F13, F14, F15, F16, F17, F18, o', v, rfl, hR2.mono (by omega)⟩ H locs ls hw hl) H locs ls hw hl
    · refine x_tabI (k := nI 20) (off := 1289) (tgt := 1333) hx hb dL_law_44 rfl (by decide) (by decide) (by decide) ?_
      obtain ⟨F0', o', hf⟩ := s_20 hK0 (by omega) hR.1 (fu := 80000) (by omega) a1 a2 F0 o
      exact q_20 hc hlt hX hbl hbA i1 i2 i3 ha1 ha2 ha3 hz0 hz1 hf (fun H locs ls hw hl => next _ ⟨A, P, C, D, J, r, t, d, g, T0, T1, T2, T3, T4, T5, T6, T7, T8, G0, G1, G2, M0, M1, M2, M3, M4, F0', F1, F2, F3, F4, F5, F6, F7, F8, F9, F10, F11, F12, F13, F14, F15, F16, F17, F18, o', v, rfl, hR35⟩ H locs ls hw hl) H locs ls hw hl
    · refine x_tabI (k := nI 21) (off := 1356) (tgt := 1400) hx hb dL_law_44 rfl (by decide) (by decide) (by decide) ?_
      obtain ⟨F0', o', hf⟩ := s_21 hK0 (by omega) hR.1 (fu := 80000) (by omega) a1 a2 M3 F0 o
      exact q_21 hc hlt hX hbl hbA i1 i2 i3 ha1 ha2 ha3 hz0 hz1 hf (fun H locs ls hw hl => next _ ⟨A, P, C, D, J, r, t, d, g, T0, T1, T2, T3, T4, T5, T6, T7, T8, G0, G1, G2, M0, M1, M2, M3, M4, F0', F1, F2, F3, F4, F5, F6, F7, F8, F9, F10, F11, F12, F13, F14, F15, F16, F17, F18, o', v, rfl, hR35⟩ H locs ls hw hl) H locs ls hw hl
    · refine x_tabI (k := nI 22) (off := 1423) (tgt := 1467) hx hb dL_law_44 rfl (by decide) (by decide) (by decide) ?_
      obtain ⟨A', D', J', M1', M2', M3', F0', F1', F3', F4', F5', F7', F11', o', hf, hR2⟩ := s_22 hK0 (by omega) hR (fu := 80000) (by omega) a1 a2 a3 F0 F3 F11 o
      exact q_22 hc hlt hX hbl hbA i1 i2 i3 ha1 ha2 ha3 hz0 hz1 hf (fun H locs ls hw hl => next _ ⟨A', P, C, D', J', r, t, d, g, T0, T1, T2, T3, T4, T5, T6, T7, T8, G0, G1, G2, M0, M1', M2', M3', M4, F0', F1', F2, F3', F4', F5', F6, F7', F8, F9, F10, F11', F12, F13, F14, F15, F16, F17, F18, o', v, rfl, hR2.mono (by omega)⟩ H locs ls hw hl) H locs ls hw hl
    · refine x_tabI (k := nI 23) (off := 1502) (tgt := 1546) hx hb dL_law_44 rfl (by decide) (by decide) (by decide) ?_
      obtain ⟨A', D', J', M1', M2', M3', F0', F1', F3', F4', F5', F7', o', hf, hR2⟩ := s_23 hK0 (by omega) hR (fu := 80000) (by omega) a1 a2 F0 F3 o
      exact q_23 hc hlt hX hbl hbA i1 i2 i3 ha1 ha2 ha3 hz0 hz1 hf (fun H locs ls hw hl => next _ ⟨A', P, C, D', J', r, t, d, g, T0, T1, T2, T3, T4, T5, T6, T7, T8, G0, G1, G2, M0, M1', M2', M3', M4, F0', F1', F2, F3', F4', F5', F6, F7', F8, F9, F10, F11, F12, F13, F14, F15, F16, F17, F18, o', v, rfl, hR2.mono (by omega)⟩ H locs ls hw hl) H locs ls hw hl
    · refine x_tabI (k := nI 24) (off := 1569) (tgt := 1613) hx hb dL_law_44 rfl (by decide) (by decide) (by decide) ?_
      obtain ⟨G0', G1', G2', F0', F12', o', hf⟩ := s_24 hK0 (by omega) hR.1 (fu := 80000) (by omega) a1 F0 G0 G1 G2 F12 o
      exact q_24 hc hlt hX hbl hbA i1 i2 i3 ha1 ha2 ha3 hz0 hz1 hf (fun H locs ls hw hl => next _ ⟨A, P, C, D, J, r, t, d, g, T0, T1, T2, T3, T4, T5, T6, T7, T8, G0', G1', G2', M0, M1, M2, M3, M4, F0', F1, F2, F3, F4, F5, F6, F7, F8, F9, F10, F11, F12', F13, F14, F15, F16, F17, F18, o', v, rfl, hR35⟩ H locs ls hw hl) H locs ls hw hl
    · refine x_tabI (k := nI 25) (off := 1625) (tgt := 1669) hx hb dL_law_44 rfl (by decide) (by decide) (by decide) ?_
      obtain ⟨A', D', J', G0', G1', G2', M1', M2', F0', F1', F3', F4', F5', F12', hf, hR2⟩ := s_25 hK0 (by omega) hR (fu := 80000) (by omega) G0 G1 G2 F0 F3 F12
      exact q_25 hc hlt hX hbl hbA i1 i2 i3 ha1 ha2 ha3 hz0 hz1 hf (fun H locs ls hw hl => next _ ⟨A', P, C, D', J', r, t, d, g, T0, T1, T2, T3, T4, T5, T6, T7, T8, G0', G1', G2', M0, M1', M2', M3, M4, F0', F1', F2, F3', F4', F5', F6, F7, F8, F9, F10, F11, F12', F13, F14, F15, F16, F17, F18, o, v, rfl, hR2.mono (by omega)⟩ H locs ls hw hl) H locs ls hw hl
    · refine x_tabI (k := nI 26) (off := 1639) (tgt := 1683) hx hb dL_law_44 rfl (by decide) (by decide) (by decide) ?_
      obtain ⟨F0', o', hf⟩ := s_26 hK0 (by omega) hR.1 (fu := 80000) (by omega) a1 F0 o
      exact q_26 hc hlt hX hbl hbA i1 i2 i3 ha1 ha2 ha3 hz0 hz1 hf (fun H locs ls hw hl => next _ ⟨A, P, C, D, J, r, t, d, g, T0, T1, T2, T3, T4, T5, T6, T7, T8, G0, G1, G2, M0, M1, M2, M3, M4, F0', F1, F2, F3, F4, F5, F6, F7, F8, F9, F10, F11, F12, F13, F14, F15, F16, F17, F18, o', v, rfl, hR35⟩ H locs ls hw hl) H locs ls hw hl
    · refine x_tabI (k := nI 27) (off := 1694) (tgt := 1738) hx hb dL_law_44 rfl (by decide) (by decide) (by decide) ?_
      obtain ⟨F0', o', hf⟩ := s_27 hK0 (by omega) hR.1 (fu := 80000) (by omega) a1 a2 F0 o
      exact q_27 hc hlt hX hbl hbA i1 i2 i3 ha1 ha2 ha3 hz0 hz1 hf (fun H locs ls hw hl => next _ ⟨A, P, C, D, J, r, t, d, g, T0, T1, T2, T3, T4, T5, T6, T7, T8, G0, G1, G2, M0, M1, M2, M3, M4, F0', F1, F2, F3, F4, F5, F6, F7, F8, F9, F10, F11, F12, F13, F14, F15, F16, F17, F18, o', v, rfl, hR35⟩ H locs ls hw hl) H locs ls hw hl
    · refine x_tabI (k := nI 28) (off := 1762) (tgt := 1806) hx hb dL_law_44 rfl (by decide) (by decide) (by decide) ?_
      obtain ⟨A', D', d', M1', M2', M3', F0', F1', F3', F4', F5', F11', o', hf, hR2⟩ := s_28 hK0 (by omega) hR (fu := 80000) (by omega) a1 F0 F3 F11 o
      exact q_28 hc hlt hX hbl hbA i1 i2 i3 ha1 ha2 ha3 hz0 hz1 hf (fun H locs ls hw hl => next _ ⟨A', P, C, D', J, r, t, d', g, T0, T1, T2, T3, T4, T5, T6, T7, T8, G0, G1, G2, M0, M1', M2', M3', M4, F0', F1', F2, F3', F4', F5', F6, F7, F8, F9, F10, F11', F12, F13, F14, F15, F16, F17, F18, o', v, rfl, hR2.mono (by omega)⟩ H locs ls hw hl) H locs ls hw hl
    · refine x_tabI (k := nI 29) (off := 1817) (tgt := 1861) hx hb dL_law_44 rfl (by decide) (by decide) (by decide) ?_
      obtain ⟨A', g', M1', M2', M3', F0', F1', F3', F4', F5', F11', o', hf, hR2⟩ := s_29 hK0 (by omega) hR (fu := 80000) (by omega) F0 F3 F11 o
      exact q_29 hc hlt hX hbl hbA i1 i2 i3 ha1 ha2 ha3 hz0 hz1 hf (fun H locs ls hw hl => next _ ⟨A', P, C, D, J, r, t, d, g', T0, T1, T2, T3, T4, T5, T6, T7, T8, G0, G1, G2, M0, M1', M2', M3', M4, F0', F1', F2, F3', F4', F5', F6, F7, F8, F9, F10, F11', F12, F13, F14, F15, F16, F17, F18, o', v, rfl, hR2.mono (by omega)⟩ H locs ls hw hl) H locs ls hw hl
    · refine x_tabI (k := nI 30) (off := 1861) (tgt := 1905) hx hb dL_law_44 rfl (by decide) (by decide) (by decide) ?_
      obtain ⟨F0', o', hf⟩ := s_30 hK0 (by omega) hR.1 (fu := 80000) (by omega) a1 F0 o
      exact q_30 hc hlt hX hbl hbA i1 i2 i3 ha1 ha2 ha3 hz0 hz1 hf (fun H locs ls hw hl => next _ ⟨A, P, C, D, J, r, t, d, g, T0, T1, T2, T3, T4, T5, T6, T7, T8, G0, G1, G2, M0, M1, M2, M3, M4, F0', F1, F2, F3, F4, F5, F6, F7, F8, F9, F10, F11, F12, F13, F14, F15, F16, F17, F18, o', v, rfl, hR35⟩ H locs ls hw hl) H locs ls hw hl
    · refine x_tabI (k := nI 31) (off := 1916) (tgt := 1960) hx hb dL_law_44 rfl (by decide) (by decide) (by decide) ?_
      obtain ⟨F0', o', hf⟩ := s_31 hK0 (by omega) hR.1 (fu := 80000) (by omega) a1 a2 F0 o
      exact q_31 hc hlt hX hbl hbA i1 i2 i3 ha1 ha2 ha3 hz0 hz1 hf (fun H locs ls hw hl => next _ ⟨A, P, C, D, J, r, t, d, g, T0, T1, T2, T3, T4, T5, T6, T7, T8, G0, G1, G2, M0, M1, M2, M3, M4, F0', F1, F2, F3, F4, F5, F6, F7, F8, F9, F10, F11, F12, F13, F14, F15, F16, F17, F18, o', v, rfl, hR35⟩ H locs ls hw hl) H locs ls hw hl
    · refine x_tabI (k := nI 32) (off := 1999) (tgt := 2043) hx hb dL_law_44 rfl (by decide) (by decide) (by decide) ?_
      obtain ⟨F0', v', hf⟩ := s_32 hK0 (by omega) hR.1 (fu := 80000) (by omega) a1 F0 v
      exact q_32 hc hlt hX hbl hbA i1 i2 i3 ha1 ha2 ha3 hz0 hz1 hf (fun H locs ls hw hl => next _ ⟨A, P, C, D, J, r, t, d, g, T0, T1, T2, T3, T4, T5, T6, T7, T8, G0, G1, G2, M0, M1, M2, M3, M4, F0', F1, F2, F3, F4, F5, F6, F7, F8, F9, F10, F11, F12, F13, F14, F15, F16, F17, F18, o, v', rfl, hR35⟩ H locs ls hw hl) H locs ls hw hl
    · refine x_tabI (k := nI 33) (off := 2076) (tgt := 2120) hx hb dL_law_44 rfl (by decide) (by decide) (by decide) ?_
      obtain ⟨T0', T1', F0', F8', F9', o', hf, hR2⟩ := s_33 hK0 (by omega) hR (fu := 80000) (by omega) a1 F0 o
      exact q_33 hc hlt hX hbl hbA i1 i2 i3 ha1 ha2 ha3 hz0 hz1 hf (fun H locs ls hw hl => next _ ⟨A, P, C, D, J, r, t, d, g, T0', T1', T2, T3, T4, T5, T6, T7, T8, G0, G1, G2, M0, M1, M2, M3, M4, F0', F1, F2, F3, F4, F5, F6, F7, F8', F9', F10, F11, F12, F13, F14, F15, F16, F17, F18, o', v, rfl, hR2.mono (by omega)⟩ H locs ls hw hl) H locs ls hw hl
    · refine x_tabI (k := nI 34) (off := 2134) (tgt := 2178) hx hb dL_law_44 rfl (by decide) (by decide) (by decide) ?_
      obtain ⟨A', P', C', D', J', r', t', d', g', T0', T2', T3', T4', T5', T6', T7', T8', M1', M2', M3', M4', F0', F1', F3', F4', F5', F7', F9', F10', F11', F13', F14', F15', F16', F17', F18', o', hf, hR2⟩ := s_34 hK0 hK hR (fu := 80000) (by omega) T2 T3 T4 T5 T6 T7 T8 F0 F3 F11 F13 F14 F15 F16 F17 F18 o
      exact q_34 hc hlt hX hbl hbA i1 i2 i3 ha1 ha2 ha3 hz0 hz1 hf (fun H locs ls hw hl => next _ ⟨A', P', C', D', J', r', t', d', g', T0', T1, T2', T3', T4', T5', T6', T7', T8', G0, G1, G2, M0, M1', M2', M3', M4', F0', F1', F2, F3', F4', F5', F6, F7', F8, F9', F10', F11', F12, F13', F14', F15', F16', F17', F18', o', v, rfl, hR2⟩ H locs ls hw hl) H locs ls hw hl
    · refine x_tabI (k := nI 35) (off := 2178) (tgt := 2222) hx hb dL_law_44 rfl (by decide) (by decide) (by decide) ?_
      have hM : M4 = F10 := hR.2.2.2.2.1
      obtain ⟨F0', o', hf⟩ := s_35 80000 M4 F0 o
      have hf2 : f_C_35 80000 M4 F0 F10 o = some (F0', o') := by rw [← hM]; exact hf
      exact q_35 hc hlt hX hbl hbA i1 i2 i3 ha1 ha2 ha3 hz0 hz1 hf2 (fun H locs ls hw hl => next _ ⟨A, P, C, D, J, r, t, d, g, T0, T1, T2, T3, T4, T5, T6, T7, T8, G0, G1, G2, M0, M1, M2, M3, M4, F0', F1, F2, F3, F4, F5, F6, F7, F8, F9, F10, F11, F12, F13, F14, F15, F16, F17, F18, o', v, rfl, hR35⟩ H locs ls hw hl) H locs ls hw hl
    · refine x_tabI (k := nI 36) (off := 2222) (tgt := 2266) hx hb dL_law_44 rfl (by decide) (by decide) (by decide) ?_
      obtain ⟨P', C', D', J', r', t', d', g', M1', M2', F0', F1', F5', o', hf, hR2⟩ := s_36 hK0 (by omega) hR (fu := 80000) (by omega) F0 o
      exact q_36 hc hlt hX hbl hbA i1 i2 i3 ha1 ha2 ha3 hz0 hz1 hf (fun H locs ls hw hl => next _ ⟨A, P', C', D', J', r', t', d', g', T0, T1, T2, T3, T4, T5, T6, T7, T8, G0, G1, G2, M0, M1', M2', M3, M4, F0', F1', F2, F3, F4, F5', F6, F7, F8, F9, F10, F11, F12, F13, F14, F15, F16, F17, F18, o', v, rfl, hR2.mono (by omega)⟩ H locs ls hw hl) H locs ls hw hl
    · refine x_tabI (k := nI 37) (off := 2266) (tgt := 2310) hx hb dL_law_44 rfl (by decide) (by decide) (by decide) ?_
      obtain ⟨A', M0', F0', F2', F6', hf, hR2⟩ := s_37 hK0 (by omega) hR (fu := 80000) (by omega) F0
      exact q_37 hc hlt hX hbl hbA i1 i2 i3 ha1 ha2 ha3 hz0 hz1 hf (fun H locs ls hw hl => next _ ⟨A', P, C, D, J, r, t, d, g, T0, T1, T2, T3, T4, T5, T6, T7, T8, G0, G1, G2, M0', M1, M2, M3, M4, F0', F1, F2', F3, F4, F5, F6', F7, F8, F9, F10, F11, F12, F13, F14, F15, F16, F17, F18, o, v, rfl, hR2.mono (by omega)⟩ H locs ls hw hl) H locs ls hw hl
    · refine x_tabI (k := nI 38) (off := 2279) (tgt := 2323) hx hb dL_law_44 rfl (by decide) (by decide) (by decide) ?_
      obtain ⟨P', C', D', J', r', t', d', g', M2', F0', F1', F5', o', hf, hR2⟩ := s_38 hK0 (by omega) hR (fu := 80000) (by omega) F0 o
      exact q_38 hc hlt hX hbl hbA i1 i2 i3 ha1 ha2 ha3 hz0 hz1 hf (fun H locs ls hw hl => next _ ⟨A, P', C', D', J', r', t', d', g', T0, T1, T2, T3, T4, T5, T6, T7, T8, G0, G1, G2, M0, M1, M2', M3, M4, F0', F1', F2, F3, F4, F5', F6, F7, F8, F9, F10, F11, F12, F13, F14, F15, F16, F17, F18, o', v, rfl, hR2.mono (by omega)⟩ H locs ls hw hl) H locs ls hw hl
