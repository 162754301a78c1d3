-- the whole of it
theorem s_34 {K : Int} (hK0 : 0 ≤ K) (hK : K ≤ 17885) {A : Nat → sAcc} {P : sPar} {C : sCla} {D : sDeb} {J : sJou} {r t : xF32} {d g : Int32} {T0 M0 M1 M2 M3 M4 F5 F6 F7 F9 F10 : Int32} {T1 F8 : xF32} {F1 F2 F4 : xF64} (h : RR (K) A (P, C, D, J, r, t, d, g) T0 T1 M0 M1 M2 M3 M4 F1 F2 F4 F5 F6 F7 F8 F9 F10) {fu : Nat} (hfu : 70000 < fu) (T2 : Int32) (T3 : Int32) (T4 : Int32) (T5 : xF32) (T6 : xF32) (T7 : xF32) (T8 : xF32) (F0 : Int32) (F3 : xF64) (F11 : Int64) (F13 : Int32) (F14 : Int32) (F15 : Int32) (F16 : xF32) (F17 : xF32) (F18 : Int32) (o : xF64) : ∃ A' P' C' D' J' r' t' d' g' T0' T2' T3' T4' T5' T6' T7' T8' M1' M2' M3' M4' F0' F1' F3' F4' F5' F7' F9' F10' F11' F13' F14' F15' F16' F17' F18' o', f_C_34 fu A P C D J r t d g T0 T1 T2 T3 T4 T5 T6 T7 T8 M1 M2 M3 M4 F0 F1 F3 F4 F5 F7 F8 F9 F10 F11 F13 F14 F15 F16 F17 F18 o = some (A', P', C', D', J', r', t', d', g', T0', T2', T3', T4', T5', T6', T7', T8', M1', M2', M3', M4', F0', F1', F3', F4', F5', F7', F9', F10', F11', F13', F14', F15', F16', F17', F18', o') ∧ RR (K + 35) A' (P', C', D', J', r', t', d', g') T0' T1 M0 M1' M2' M3' M4' F1' F2 F4' F5' F6 F7' F8 F9' F10' := by
  obtain ⟨x1, x2, x3, x4, rfl, len, rfl, rfl, hTX⟩ := h
  obtain ⟨t', e1, e2⟩ := k_rem (fu := fu) (by omega) F1 F3
  obtain ⟨p', r', c', e2', T5', T6', T7', T8', F16', F17', w1, w2, w3, w4, w5⟩ := t_text (fu := fu) (by omega) hTX T2 T3 T4 F13 F14 F15 F18 T5 T6 T7 T8 F16 F17
  have he : f_X6_empty (nI len) = some 0 := rfl
  have tx0 : ∃ len, (0 : Int32) = nI len ∧ (0 : Int32) = nI len ∧ TX len T1 F8 := ⟨0, rfl, rfl, by omega, fun k hk => absurd hk (Nat.not_lt_zero k)⟩
  have o1 : ¬ (1 : Int32) = 0 := by decide
  rcases w4 with rfl | rfl
  · have hx : f_X7_read fu A P C D J r t d g (nI len) T1 T2 T3 T4 T5 T6 T7 T8 M1 M2 M3 M4 = some (2, 0, A, P, C, D, J, r, t, d, g, 0, nI p', 0, c', T5', T6', T7', T8', M1, M2, M3, nI p') := by
      rw [f_X7_read, w1, xb8_s, he, xb1_s, if_pos rfl]
    have hy : f_X8_read fu F0 F1 F3 F4 F5 F7 F8 (nI len) M4 F11 F13 F14 F15 F16 F17 F18 = some (0, 1, F1, t', F4, F5, F7, 0, nI p', F11, nI p', nI len, 0, F16', F17', e2') := by
      rw [f_X8_read, e1, xb1_s, w2, xb8_s, if_pos rfl, f_X8_fails, xb2_s]
    exact ⟨A, P, C, D, J, r, t, d, g, 0, nI p', 0, c', T5', T6', T7', T8', M1, M2, M3, nI p', 1, F1, t', F4, F5, F7, 0, nI p', F11, nI p', nI len, 0, F16', F17', e2', o, z_34 (k := 1) (by rw [f_L_read, hx, xb23_s]; rfl) hy rfl (fun q => absurd q (by decide)), x1.mono (by omega), x2.mono (by omega), x3.imp id (fun q => ⟨q.1, q.2.1, q.2.2.mono (by omega)⟩), x4, rfl, tx0⟩
  obtain ⟨c, hc, rfl, rfl, hTE⟩ := w5 rfl
  obtain ⟨ra, q, F4', h1, h2, h3, h4, h5, h6, h7⟩ := k_hist x2 (X := (P, C, D, J, r, t, d, g)) (f := t') (x1.frame e2) (fu := fu) (by omega)
  have x3' : (M0 = 0 ∧ F6 = 0) ∨ (M0 = 1 ∧ F6 = 1 ∧ RA (K + 35) (upA A (2 + ra) (P, C, D, J, r, t, d, g) 1) F2) := by
    rw [upA_n (by omega)]
    exact x3.imp id (fun q => ⟨q.1, q.2.1, q.2.2.mono (by omega)⟩)
  have z0 : nI 0 = 0 := rfl
  rcases rd_loop hK0 hK (r := r) (t := t) (fu := fu) (by omega) hc hTE t' F4 F5 F7 (0 : Int32) M4 (nI p') (nI len) 1 F8 c 0 fu fu P C D J d g F1 F11 (by omega) (by omega) (by omega) (by rw [Int.ofNat_zero, Int.add_zero]; exact x1) with ⟨P', C', D', J', d', g', s', z', k1, k2, k3⟩ | ⟨v, oc, F7', P', C', D', J', d', g', s', z', k1, k2, k3⟩
  · rw [z0] at k1 k2
    have hx : f_X7_read fu A P C D J r t d g (nI len) T1 T2 T3 T4 T5 T6 T7 T8 M1 M2 M3 M4 = some (0, nI c, upA A (2 + ra) (P, C, D, J, r, t, d, g), P', C', D', J', r, t, d', g', 0, nI p', 1, nI c, T5', T6', T7', T8', nI ((ra + 1) % 7), nI q, M3, M4) := by
      rw [f_X7_read, w1, xb8_s, he, xb1_s, if_neg o1, y_xk h3, f_X7_performAll, k1, xb7_s, if_pos rfl, h5, xb2_s, h4]
    have hy : f_X8_read fu F0 F1 F3 F4 F5 F7 F8 (nI len) M4 F11 F13 F14 F15 F16 F17 F18 = some (nI c, 0, s', t', F4', nI q, F7, 0, M4, z', nI p', nI len, 1, F16', F17', nI c) := by
      rw [f_X8_read, e1, xb1_s, w2, xb8_s, if_neg o1, k2, h6, xb2_s]
    exact ⟨upA A (2 + ra) (P, C, D, J, r, t, d, g), P', C', D', J', r, t, d', g', 0, nI p', 1, nI c, T5', T6', T7', T8', nI ((ra + 1) % 7), nI q, M3, M4, 0, s', t', F4', nI q, F7, 0, M4, z', nI p', nI len, 1, F16', F17', nI c, vp_updL o 0 (nI c).toInt64, z_34 (k := 0) (by rw [f_L_read, hx, xb23_s, if_pos rfl, y_xk y_i01, y_c0]) hy rfl (fun _ => y_us _ _ _), k3, h7.mono (by omega), x3', x4, rfl, tx0⟩
  · rw [z0] at k1 k3
    obtain ⟨s'', b1, b2⟩ := rd_back (fu := fu) (c := c) (by omega) s' t' F4 F5 F7' 0 M4 (nI p') (nI len) 1 (nI c) F8 F16' F17' z'
    obtain ⟨M3n, hM, hM2⟩ : ∃ M3n, f_X7_keepReason v M3 = some M3n ∧ ((M3n = -1 ∧ F7' = 0) ∨ (M3n = F7' ∧ 1 ≤ M3n.toInt ∧ M3n.toInt ≤ 6)) := by
      obtain ⟨g1, g2, g3⟩ := k2
      rcases g3 with ⟨g3, g4, rfl⟩ | ⟨g3, rfl⟩
      · have c6 : ¬ (6 : Int32) < F7' := by
          rw [y_lt32]
          have : (6 : Int32).toInt = 6 := rfl
          omega
        exact ⟨F7', by rw [f_X7_keepReason, if_neg c6], .inr ⟨rfl, g3, g4⟩⟩
      · exact ⟨M3, by rw [f_X7_keepReason, if_pos g3], x4⟩
    have hx : f_X7_read fu A P C D J r t d g (nI len) T1 T2 T3 T4 T5 T6 T7 T8 M1 M2 M3 M4 = some (3, 0, upA A (2 + ra) (P, C, D, J, r, t, d, g), P, C, D, J, r, t, d, g, 0, nI p', 1, nI c, T5', T6', T7', T8', M1, M2, M3n, M4) := by
      rw [f_X7_read, w1, xb8_s, he, xb1_s, if_neg o1, y_xk h3, f_X7_performAll, k1, xb7_s, if_neg k2.1, y_xk h3, hM, xb1_s, h4, upA_s]
    have hy : f_X8_read fu F0 F1 F3 F4 F5 F7 F8 (nI len) M4 F11 F13 F14 F15 F16 F17 F18 = some (0, 2, s'', t', F4, F5, F7', 0, M4, z', nI p', nI len, 1, F16', F17', nI c) := by
      rw [f_X8_read, e1, xb1_s, w2, xb8_s, if_neg o1, k3, b1]
    refine ⟨upA A (2 + ra) (P, C, D, J, r, t, d, g), P, C, D, J, r, t, d, g, 0, nI p', 1, nI c, T5', T6', T7', T8', M1, M2, M3n, M4, 2, s'', t', F4, F5, F7', 0, M4, z', nI p', nI len, 1, F16', F17', nI c, o, z_34 (k := 2) (by rw [f_L_read, hx, xb23_s]; rfl) hy rfl (fun q => absurd q (by decide)), (x1.mono (by omega)).frame (fun k hk => by rw [b2 k hk, e2 k hk]), ?_, x3', hM2, rfl, tx0⟩
    obtain ⟨rb, qb, y1, y2, y3, y4, y5, y6⟩ := x2
    have hrr : rb = ra := by
      have := (nI_eq (a := rb) (b := ra) (by omega) (by omega)).mp (by rw [← y3, h2])
      exact this
    subst hrr
    exact ⟨rb, qb, y1, y2, y3, y4, y5, fun j hj => by rw [upA_n (by omega)]; exact (y6 j hj).mono (by omega)⟩
