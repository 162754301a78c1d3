-- clear, text, undo, save, restore
theorem y_char : ∀ i, i < 127 → vp_nar .char (nI i) = nI i := by decide +kernel
theorem f_X7_clear_eq (P : sPar) (C : sCla) (D : sDeb) (J : sJou) (r t : xF32) (d g M2 : Int32) : f_X7_clear P C D J r t d g M2 = some (P.1, (0, P.2.1, P.2.2.1, P.2.2.2.1, P.2.2.2.2.1, P.2.2.2.2.2.1, P.2.2.2.2.2.2), (0, C.2.1, C.2.2.1, C.2.2.2.1, C.2.2.2.2.1, C.2.2.2.2.2.1, C.2.2.2.2.2.2), (0, D.2.1, D.2.2.1, D.2.2.2.1, D.2.2.2.2.1, D.2.2.2.2.2), (0, J.2.1, J.2.2), xRate0, xTier0, 0, 0, 0) := by
  rw [f_X7_clear, f_X0_reset]
  rfl
theorem s_0 {K : Int} (hK0 : 0 ≤ K) (hK : K ≤ 17900) {A : Nat → sAcc} {P : sPar} {C : sCla} {D : sDeb} {J : sJou} {r t : xF32} {d g : Int32} {T0 M0 M1 M2 M3 M4 F5 F6 F7 F9 F10 : Int32} {T1 F8 : xF32} {F1 F2 F4 : xF64} (h : RR (K) A (P, C, D, J, r, t, d, g) T0 T1 M0 M1 M2 M3 M4 F1 F2 F4 F5 F6 F7 F8 F9 F10) {fu : Nat} (hfu : 70000 < fu) (F0 : Int32) : ∃ P' C' D' J' r' t' d' g' M2' F0' F1' F5', f_C_0 fu P C D J r t d g M2 F0 F1 F5 = some (P', C', D', J', r', t', d', g', M2', F0', F1', F5') ∧ RR (K + 1) A (P', C', D', J', r', t', d', g') T0 T1 M0 M1 M2' M3 M4 F1' F2 F4 F5' F6 F7 F8 F9 F10 := by
  obtain ⟨n, c, m, j, dn, gn, hP, vP, hC, vC, hD, v1, v2, v3, hJ, h0⟩ := h.1.get
  obtain ⟨s', k1, k2⟩ := k_empties (fu := fu) (by omega) F1
  have a0 : xin 0 4 = true := by decide
  have a1 : xin 1 4 = true := by decide
  have a2 : xin 2 4 = true := by decide
  have a3 : xin 3 4 = true := by decide
  have hx := f_X7_clear_eq P C D J r t d g M2
  have hy : f_X8_clear fu F0 F1 F5 = some (P.1, 0, s', 0) := by
    rw [f_X8_clear, p_parties hP, xb1_s, k1, xb1_s, hP.2.1]
  refine ⟨_, _, _, _, _, _, _, _, _, 0, s', 0, z_0 hx hy, ?_⟩
  obtain ⟨x1, x2, x3, x5⟩ := h.mono (L := K + 1) (by omega)
  refine ⟨RA_zero (by omega) k2 rfl rfl rfl rfl ?_ ?_ rfl rfl, ?_, x3, x5⟩
  · intro k hk
    obtain rfl | rfl | rfl | rfl : k = 0 ∨ k = 1 ∨ k = 2 ∨ k = 3 := by omega
    all_goals rfl
  · intro k hk
    obtain rfl | rfl | rfl | rfl : k = 0 ∨ k = 1 ∨ k = 2 ∨ k = 3 := by omega
    all_goals rfl
  · obtain ⟨ra, q, y1, y2, y3, y4, y5, y6⟩ := x2
    exact ⟨ra, 0, y1, by omega, y3, rfl, rfl, fun j hj => absurd hj (Nat.not_lt_zero j)⟩
theorem s_33 {K : Int} (hK0 : 0 ≤ K) (hK : K ≤ 17900) {A : Nat → sAcc} {P : sPar} {C : sCla} {D : sDeb} {J : sJou} {r t : xF32} {d g : Int32} {T0 M0 M1 M2 M3 M4 F5 F6 F7 F9 F10 : Int32} {T1 F8 : xF32} {F1 F2 F4 : xF64} (h : RR (K) A (P, C, D, J, r, t, d, g) T0 T1 M0 M1 M2 M3 M4 F1 F2 F4 F5 F6 F7 F8 F9 F10) {fu : Nat} (hfu : 70000 < fu) (a1 : Int32) (F0 : Int32) (o : xF64) : ∃ T0' T1' F0' F8' F9' o', f_C_33 fu a1 T0 T1 F0 F8 F9 o = some (T0', T1', F0', F8', F9', o') ∧ RR (K + 1) A (P, C, D, J, r, t, d, g) T0' T1' M0 M1 M2 M3 M4 F1 F2 F4 F5 F6 F7 F8' F9' F10 := by
  obtain ⟨x1, x2, x3, x4, x5, len, rfl, rfl, hl, hT⟩ := h.mono (L := K + 1) (by omega)
  have o1 : ¬ (1 : Int32) = 0 := by decide
  obtain ⟨x, hx0⟩ : ∃ x : Int32, x = (a1.toUInt32 % 65536).toInt32 := ⟨_, rfl⟩
  suffices H : ∃ T0' T1' F0' F8' F9' o' k b, f_L_append x (nI len) T1 o = some (k, T0', T1', o') ∧ f_X8_append x F0 F8 (nI len) = some (b, F0', F8', F9') ∧ F0' = k ∧ (k = 0 → o' 0 = b.toInt64) ∧ ∃ len, T0' = nI len ∧ F9' = nI len ∧ TX len T1' F8' by
    obtain ⟨T0', T1', F0', F8', F9', o', k, b, q1, q2, q3, q4, q5⟩ := H
    rw [hx0] at q1 q2
    exact ⟨T0', T1', F0', F8', F9', o', z_33 q1 q2 q3 q4, x1, x2, x3, x4, x5, q5⟩
  obtain ⟨v, w1, w2, w3, w4⟩ := y_in3 x 32 126
  rcases w4 with ⟨rfl, -⟩ | ⟨rfl, w4, w5⟩
  · exact ⟨nI len, T1, 1, F8, nI len, o, 1, 0, by rw [f_L_append, f_X7_append, w2, xb1_s, if_pos rfl]; rfl, by rw [f_X8_append, w1, xb1_s, if_pos rfl, f_X8_fails, xb2_s], rfl, fun q => absurd q (by decide), len, rfl, rfl, hl, hT⟩
  by_cases c7 : len = 70
  · have l7 : ¬ nI len < 70 := by rw [c7]; decide
    have l8 : nI len = 70 := by rw [c7]; rfl
    exact ⟨nI len, T1, 2, F8, nI len, o, 2, 0, by rw [f_L_append, f_X7_append, w2, xb1_s, if_neg o1, if_neg l7]; rfl, by rw [f_X8_append, w1, xb1_s, if_neg o1, if_pos l8, f_X8_fails, xb2_s], rfl, fun q => absurd q (by decide), len, rfl, rfl, hl, hT⟩
  · have l7 : nI len < 70 := nI_lt (a := len) (b := 70) (by omega) (by omega)
    have l8 : ¬ nI len = 70 := y_neL (k := 70) c7 (by omega) (by omega)
    have l9 : ¬ (70 : Int32) ≤ nI len := nI_ge (a := len) (b := 70) (by omega) (by omega)
    obtain ⟨i, i1, i2, rfl⟩ := y_rg (lo := 32) (hi := 126) w4 w5 (by omega)
    have x7 : xin (nI len) 70 = true := y_in (by omega) (by omega)
    have y7 : (nI len).toNatClampNeg = len := y_cl (by omega)
    refine ⟨nI (len + 1), upd T1 len (nI i), 0, upd F8 len (nI i), nI (len + 1), vp_updL o 0 (nI (len + 1)).toInt64, 0, nI (len + 1), ?_, ?_, rfl, fun _ => y_us _ _ _, len + 1, rfl, rfl, by omega, fun k hk => ?_⟩
    · rw [f_L_append, f_X7_append, w2, xb1_s, if_neg o1, if_pos l7, f_X6_addOne, if_neg l9, y_xk x7, xb3_s, xb4_s, if_pos rfl, y_xk y_i01, y_c0, nI_1, y7, y_char i (by omega)]
    · rw [f_X8_append, w1, xb1_s, if_neg o1, if_neg l8, y_xk x7, nI_1, y7]
    · by_cases e : k = len
      · subst e
        rw [pk_us, pk_us, nI_toInt (by omega)]
        exact ⟨rfl, by omega, by omega⟩
      · rw [pk_un e, pk_un e]
        exact hT k (by omega)
theorem s_36 {K : Int} (hK0 : 0 ≤ K) (hK : K ≤ 17900) {A : Nat → sAcc} {P : sPar} {C : sCla} {D : sDeb} {J : sJou} {r t : xF32} {d g : Int32} {T0 M0 M1 M2 M3 M4 F5 F6 F7 F9 F10 : Int32} {T1 F8 : xF32} {F1 F2 F4 : xF64} (h : RR (K) A (P, C, D, J, r, t, d, g) T0 T1 M0 M1 M2 M3 M4 F1 F2 F4 F5 F6 F7 F8 F9 F10) {fu : Nat} (hfu : 70000 < fu) (F0 : Int32) (o : xF64) : ∃ P' C' D' J' r' t' d' g' M1' M2' F0' F1' F5' o', f_C_36 fu A P C D J r t d g M1 M2 F0 F1 F4 F5 o = some (P', C', D', J', r', t', d', g', M1', M2', F0', F1', F5', o') ∧ RR (K + 1) A (P', C', D', J', r', t', d', g') T0 T1 M0 M1' M2' M3 M4 F1' F2 F4 F5' F6 F7 F8 F9 F10 := by
  obtain ⟨x1, ⟨ra, q, y1, y2, rfl, rfl, rfl, y6⟩, x3, x5⟩ := h.mono (L := K + 1) (by omega)
  by_cases c0 : q = 0
  · subst c0
    have n0 : ¬ (0 : Int32) < nI 0 := by decide
    have n1 : nI 0 = (0 : Int32) := rfl
    have hx : f_X7_undo A P C D J r t d g (nI ra) (nI 0) = some (5, 0, P, C, D, J, r, t, d, g, nI ra, nI 0) := by rw [f_X7_undo, if_neg n0]
    have hy : f_X8_undo fu F0 F1 F4 (nI 0) = some (0, 1, F1, nI 0) := by rw [f_X8_undo, if_pos n1, f_X8_fails, xb2_s]
    exact ⟨P, C, D, J, r, t, d, g, nI ra, nI 0, 1, F1, nI 0, o, z_36 (k := 1) (by rw [f_L_undo, hx, xb12_s]; rfl) hy rfl (fun q => absurd q (by decide)), x1, ⟨ra, 0, y1, by omega, rfl, rfl, rfl, fun j hj => absurd hj (Nat.not_lt_zero j)⟩, x3, x5⟩
  have n0 : (0 : Int32) < nI q := nI_lt (a := 0) (b := q) (by omega) (by omega)
  have n1 : ¬ nI q = (0 : Int32) := y_neL (k := 0) c0 (by omega) (by omega)
  have eq1 : nI q - 1 = nI (q - 1) := y_m1 (by omega)
  obtain ⟨F1', k1, k2⟩ := ycpy (fun m i t => f_X8_undo_30 fu F4 m i 0 t (nI (q - 1))) (fun k => F4 (304 * (q - 1) + k)) 0 304 (fun t => some (nI (q - 1), 0, t, nI (q - 1))) (fun m t => by
    have cg : (304 : Int32) ≤ nI 304 := nI_le (a := 304) (b := 304) (by omega) (by omega)
    show f_X8_undo_30 fu F4 (m + 1) (nI 304) 0 t (nI (q - 1)) = _
    rw [f_X8_undo_30, if_pos cg]) (fun m i t hi => by
    have cn : ¬ (304 : Int32) ≤ nI i := nI_ge (a := i) (b := 304) hi (by omega)
    have ei : 304 * nI (q - 1) + nI i = nI (304 * (q - 1) + i) := by rw [q304, pk_mul, nI_add]
    show f_X8_undo_30 fu F4 (m + 1) (nI i) 0 t (nI (q - 1)) = f_X8_undo_30 fu F4 m (nI (i + 1)) 0 (vp_updL t (0 + i) (F4 (304 * (q - 1) + i))) (nI (q - 1))
    rw [f_X8_undo_30, if_neg cn, ei, y_xk (y_in (by omega) (by omega)), y_xk (y_in hi (by omega)), y_cl (by omega), y_cl (by omega), nI_1, Nat.zero_add]) 304 0 fu F1 (by omega) (by omega)
  have z0 : nI 0 = 0 := rfl
  have k1' : f_X8_undo_30 fu F4 fu 0 0 F1 (nI (q - 1)) = some (nI (q - 1), 0, F1', nI (q - 1)) := k1
  have hy : f_X8_undo fu F0 F1 F4 (nI q) = some (nI (q - 1), 0, F1', nI (q - 1)) := by rw [f_X8_undo, if_neg n1, eq1, k1']
  have hRA : RA (K + 1) (A (2 + (ra + 6) % 7)) F1' := by
    have q6 := y6 (q - 1) (by omega)
    rw [show (ra + 7 - q + (q - 1)) % 7 = (ra + 6) % 7 by omega] at q6
    exact q6.frame (fun k hk => by rw [k2 k, if_pos (by omega)]; rfl)
  have hRH : RH (K + 1) A (nI ((ra + 6) % 7)) (nI (q - 1)) F4 (nI (q - 1)) := ⟨(ra + 6) % 7, q - 1, by omega, by omega, rfl, rfl, rfl, fun j hj => by
    have q6 := y6 j (by omega)
    rw [show ((ra + 6) % 7 + 7 - (q - 1) + j) % 7 = (ra + 7 - q + j) % 7 by omega]
    exact q6⟩
  have hx : ∃ I : Nat, I = 2 + (ra + 6) % 7 ∧ f_X7_undo A P C D J r t d g (nI ra) (nI q) = some (0, nI (q - 1), (A I).1, (A I).2.1, (A I).2.2.1, (A I).2.2.2.1, (A I).2.2.2.2.1, (A I).2.2.2.2.2.1, (A I).2.2.2.2.2.2.1, (A I).2.2.2.2.2.2.2, nI ((ra + 6) % 7), nI (q - 1)) := by
    refine ⟨_, rfl, ?_⟩
    by_cases cr : ra = 0
    · subst cr
      have l0 : nI 0 ≤ (0 : Int32) := by decide
      have x6 : xin 6 7 = true := by decide
      rw [f_X7_undo, if_pos n0, if_pos l0, eq1, y_xk x6]
      rfl
    · have l0 : ¬ nI ra ≤ (0 : Int32) := nI_ge (a := 0) (b := ra) (by omega) (by omega)
      have er : nI ra - 1 = nI (ra - 1) := y_m1 (by omega)
      rw [f_X7_undo, if_pos n0, if_neg l0, eq1, er, y_xk (y_in (by omega) (by omega)), y_cl (by omega), show (ra + 6) % 7 = ra - 1 by omega]
  obtain ⟨I, hI, hx⟩ := hx
  rw [← hI] at hRA
  exact ⟨_, _, _, _, _, _, _, _, _, _, 0, F1', nI (q - 1), vp_updL o 0 (nI (q - 1)).toInt64, z_36 (k := 0) (by rw [f_L_undo, hx, xb12_s, if_pos rfl, y_xk y_i01, y_c0]) hy rfl (fun _ => y_us _ _ _), hRA, hRH, x3, x5⟩
theorem s_37 {K : Int} (hK0 : 0 ≤ K) (hK : K ≤ 17900) {A : Nat → sAcc} {P : sPar} {C : sCla} {D : sDeb} {J : sJou} {r t : xF32} {d g : Int32} {T0 M0 M1 M2 M3 M4 F5 F6 F7 F9 F10 : Int32} {T1 F8 : xF32} {F1 F2 F4 : xF64} (h : RR (K) A (P, C, D, J, r, t, d, g) T0 T1 M0 M1 M2 M3 M4 F1 F2 F4 F5 F6 F7 F8 F9 F10) {fu : Nat} (hfu : 70000 < fu) (F0 : Int32) : ∃ A' M0' F0' F2' F6', f_C_37 fu A P C D J r t d g M0 F0 F1 F2 F6 = some (A', M0', F0', F2', F6') ∧ RR (K + 1) A' (P, C, D, J, r, t, d, g) T0 T1 M0' M1 M2 M3 M4 F1 F2' F4 F5 F6' F7 F8 F9 F10 := by
  obtain ⟨x1, x2, x3, x5⟩ := h.mono (L := K + 1) (by omega)
  obtain ⟨n, c, m, j, dn, gn, hP, vP, hC, vC, hD, v1, v2, v3, hJ, h0⟩ := h.1.get
  obtain ⟨F2', k1, k2⟩ := ycpy (fun m i t => f_X8_save_7 fu F1 m i 0 t F6) (fun k => F1 k) 0 304 (fun t => some (C.1, 0, t, 1)) (fun m t => by
    have cg : (304 : Int32) ≤ nI 304 := nI_le (a := 304) (b := 304) (by omega) (by omega)
    show f_X8_save_7 fu F1 (m + 1) (nI 304) 0 t F6 = _
    rw [f_X8_save_7, if_pos cg, c_claims hC, xb1_s, hC.2.1]) (fun m i t hi => by
    have cn : ¬ (304 : Int32) ≤ nI i := nI_ge (a := i) (b := 304) hi (by omega)
    show f_X8_save_7 fu F1 (m + 1) (nI i) 0 t F6 = f_X8_save_7 fu F1 m (nI (i + 1)) 0 (vp_updL t (0 + i) (F1 i)) F6
    rw [f_X8_save_7, if_neg cn, y_xk (y_in hi (by omega)), y_xk (y_in hi (by omega)), y_cl (by omega), nI_1, Nat.zero_add]) 304 0 fu F2 (by omega) (by omega)
  have hx : f_X7_save A P C D J r t d g M0 = some (C.1, upA A 1 (P, C, D, J, r, t, d, g), 1) := rfl
  have hy : f_X8_save fu F0 F1 F2 F6 = some (C.1, 0, F2', 1) := by
    rw [f_X8_save]
    exact k1
  refine ⟨_, 1, 0, F2', 1, z_37 hx hy, x1, ?_, .inr ⟨rfl, rfl, ?_⟩, x5⟩
  · obtain ⟨ra, q, y1, y2, y3, y4, y5, y6⟩ := x2
    exact ⟨ra, q, y1, y2, y3, y4, y5, fun j hj => by rw [upA_n (by omega)]; exact y6 j hj⟩
  · rw [upA_s]
    exact x1.frame (fun k hk => by rw [k2 k, if_pos (by omega)]; rfl)
theorem s_38 {K : Int} (hK0 : 0 ≤ K) (hK : K ≤ 17900) {A : Nat → sAcc} {P : sPar} {C : sCla} {D : sDeb} {J : sJou} {r t : xF32} {d g : Int32} {T0 M0 M1 M2 M3 M4 F5 F6 F7 F9 F10 : Int32} {T1 F8 : xF32} {F1 F2 F4 : xF64} (h : RR (K) A (P, C, D, J, r, t, d, g) T0 T1 M0 M1 M2 M3 M4 F1 F2 F4 F5 F6 F7 F8 F9 F10) {fu : Nat} (hfu : 70000 < fu) (F0 : Int32) (o : xF64) : ∃ P' C' D' J' r' t' d' g' M2' F0' F1' F5' o', f_C_38 fu A P C D J r t d g M0 M2 F0 F1 F2 F5 F6 o = some (P', C', D', J', r', t', d', g', M2', F0', F1', F5', o') ∧ RR (K + 1) A (P', C', D', J', r', t', d', g') T0 T1 M0 M1 M2' M3 M4 F1' F2 F4 F5' F6 F7 F8 F9 F10 := by
  obtain ⟨x1, x2, x3, x5⟩ := h.mono (L := K + 1) (by omega)
  rcases x3 with ⟨rfl, rfl⟩ | ⟨rfl, rfl, x4⟩
  · have hx : f_X7_restore A P C D J r t d g 0 M2 = some (3, 0, P, C, D, J, r, t, d, g, M2) := by rw [f_X7_restore, if_pos rfl]
    have hy : f_X8_restore fu F0 F1 F2 F5 0 = some (0, 1, F1, F5) := by rw [f_X8_restore, if_pos rfl, f_X8_fails, xb2_s]
    exact ⟨P, C, D, J, r, t, d, g, M2, 1, F1, F5, o, z_38 (k := 1) (by rw [f_L_restore, hx, xb11_s]; rfl) hy rfl (fun q => absurd q (by decide)), x1, x2, .inl ⟨rfl, rfl⟩, x5⟩
  have o1 : ¬ (1 : Int32) = 0 := by decide
  obtain ⟨F1', k1, k2⟩ := ycpy (fun m i t => f_X8_restore_20 fu F2 1 m i 0 t F5) (fun k => F2 k) 0 304 (fun t => xb1 (f_X8_claims t) fun v3 => (some (v3, 0, t, 0))) (fun m t => by
    have cg : (304 : Int32) ≤ nI 304 := nI_le (a := 304) (b := 304) (by omega) (by omega)
    show f_X8_restore_20 fu F2 1 (m + 1) (nI 304) 0 t F5 = _
    rw [f_X8_restore_20, if_pos cg]) (fun m i t hi => by
    have cn : ¬ (304 : Int32) ≤ nI i := nI_ge (a := i) (b := 304) hi (by omega)
    show f_X8_restore_20 fu F2 1 (m + 1) (nI i) 0 t F5 = f_X8_restore_20 fu F2 1 m (nI (i + 1)) 0 (vp_updL t (0 + i) (F2 i)) F5
    rw [f_X8_restore_20, if_neg cn, y_xk (y_in hi (by omega)), y_xk (y_in hi (by omega)), y_cl (by omega), nI_1, Nat.zero_add]) 304 0 fu F1 (by omega) (by omega)
  have hRA : RA (K + 1) (A 1) F1' := x4.frame (fun k hk => by rw [k2 k, if_pos (by omega)]; rfl)
  have hcl : f_X8_claims F1' = some (A 1).2.1.1 := by
    obtain ⟨n, c, m, j, dn, gn, q1, q2, q3, q4⟩ := hRA
    rw [c_claims q3, q3.2.1]
  have hx : f_X7_restore A P C D J r t d g 1 M2 = some (0, (A 1).2.1.1, (A 1).1, (A 1).2.1, (A 1).2.2.1, (A 1).2.2.2.1, (A 1).2.2.2.2.1, (A 1).2.2.2.2.2.1, (A 1).2.2.2.2.2.2.1, (A 1).2.2.2.2.2.2.2, 0) := by rw [f_X7_restore, if_neg o1]
  have hy : f_X8_restore fu F0 F1 F2 F5 1 = some ((A 1).2.1.1, 0, F1', 0) := by
    have k1' : f_X8_restore_20 fu F2 1 fu 0 0 F1 F5 = xb1 (f_X8_claims F1') fun v3 => (some (v3, 0, F1', 0)) := k1
    rw [f_X8_restore, if_neg o1, k1', hcl, xb1_s]
  refine ⟨_, _, _, _, _, _, _, _, 0, 0, F1', 0, vp_updL o 0 (A 1).2.1.1.toInt64, z_38 (k := 0) (by rw [f_L_restore, hx, xb11_s, if_pos rfl, y_xk y_i01, y_c0]) hy rfl (fun _ => y_us _ _ _), hRA, ?_, .inr ⟨rfl, rfl, x4⟩, x5⟩
  obtain ⟨ra, q, y1, y2, y3, y4, y5, y6⟩ := x2
  exact ⟨ra, 0, y1, by omega, y3, rfl, rfl, fun j hj => absurd hj (Nat.not_lt_zero j)⟩
