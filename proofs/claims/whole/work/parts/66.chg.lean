-- changing cases
theorem RR.why {K : Int} {A : Nat → sAcc} {X : sAcc} {T0 : Int32} {T1 : xF32} {M0 M1 M2 M3 M4 : Int32} {F1 F2 F4 : xF64} {F5 F6 F7 : Int32} {F8 : xF32} {F9 F10 : Int32} (h : RR K A X T0 T1 M0 M1 M2 M3 M4 F1 F2 F4 F5 F6 F7 F8 F9 F10) {k : Int32} (h1 : 1 ≤ k.toInt) (h2 : k.toInt ≤ 6) : RR (K + 1) A X T0 T1 M0 M1 M2 k M4 F1 F2 F4 F5 F6 k F8 F9 F10 := by
  obtain ⟨x1, x2, x3, x4, x5⟩ := h.mono (L := K + 1) (by omega)
  exact ⟨x1, x2, x3, .inr ⟨rfl, h1, h2⟩, x5⟩
theorem RR.step {K : Int} {A A' : Nat → sAcc} {X X' : sAcc} {T0 : Int32} {T1 : xF32} {M0 M1 M2 M1' M2' M3 M4 : Int32} {F1 F1' F2 F4 F4' : xF64} {F5 F5' F6 F7 : Int32} {F8 : xF32} {F9 F10 : Int32} (h : RR K A X T0 T1 M0 M1 M2 M3 M4 F1 F2 F4 F5 F6 F7 F8 F9 F10) (hH : RH K A' M1' M2' F4' F5') (h1 : A' 1 = A 1) (hX : RA (K + 1) X' F1') : RR (K + 1) A' X' T0 T1 M0 M1' M2' M3 M4 F1' F2 F4' F5' F6 F7 F8 F9 F10 := by
  obtain ⟨x1, x2, x3, x5⟩ := h.mono (L := K + 1) (by omega)
  exact ⟨hX, hH.mono (by omega), by rw [h1]; exact x3, x5⟩
theorem RR.rem {K : Int} {A : Nat → sAcc} {P : sPar} {C : sCla} {D : sDeb} {J : sJou} {r t : xF32} {d g : Int32} {T0 : Int32} {T1 : xF32} {M0 M1 M2 M3 M4 : Int32} {F1 F2 F4 : xF64} {F5 F6 F7 : Int32} {F8 : xF32} {F9 F10 : Int32} (h : RR K A (P, C, D, J, r, t, d, g) T0 T1 M0 M1 M2 M3 M4 F1 F2 F4 F5 F6 F7 F8 F9 F10) {fu : Nat} (hfu : 2000 < fu) {f : xF64} (hf : ∀ k, k < 304 → f k = F1 k) : ∃ A' M1' M2' F4' F5', f_X7_remember A P C D J r t d g M1 M2 = some (A', M1', M2') ∧ f_X8_keeps fu f F4 F5 = some (F4', F5') ∧ RH K A' M1' M2' F4' F5' ∧ A' 1 = A 1 := k_remember h.2.1 (h.1.frame hf) hfu
theorem ends_no {fu : Nat} {c : Int32} (h : ¬ c = 9) (h0 : ¬ c ≤ 0) (F0 : Int32) (F3 F4 : xF64) (F5 : Int32) (z : Int64) : f_X8_ends fu c F0 F3 F4 F5 z = some (0, c, F4, F5) := by
  rw [f_X8_ends, if_neg h, if_neg h0]
theorem ends_why (fu : Nat) (F0 : Int32) (F3 F4 : xF64) (F5 : Int32) (z : Int64) : f_X8_ends fu 9 F0 F3 F4 F5 z = some (0, 3, F4, F5) := by
  rw [f_X8_ends, if_pos rfl]
theorem ends_ok {fu : Nat} {F0 : Int32} {F3 F4 : xF64} {F5 : Int32} {z : Int64} {F4' : xF64} {F5' : Int32} (h : f_X8_keeps fu F3 F4 F5 = some (F4', F5')) : f_X8_ends fu 0 F0 F3 F4 F5 z = some (z, 0, F4', F5') := by
  have a : ¬ (0 : Int32) = 9 := by decide
  have b : (0 : Int32) ≤ 0 := by decide
  rw [f_X8_ends, if_neg a, if_pos b, h, xb2_s]
theorem y_ti (x : Int32) : x.toInt64.toInt32 = x := by
  simp
theorem s_5 {K : Int} (hK0 : 0 ≤ K) (hK : K ≤ 17900) {A : Nat → sAcc} {P : sPar} {C : sCla} {D : sDeb} {J : sJou} {r t : xF32} {d g : Int32} {T0 M0 M1 M2 M3 M4 F5 F6 F7 F9 F10 : Int32} {T1 F8 : xF32} {F1 F2 F4 : xF64} (h : RR (K) A (P, C, D, J, r, t, d, g) T0 T1 M0 M1 M2 M3 M4 F1 F2 F4 F5 F6 F7 F8 F9 F10) {fu : Nat} (hfu : 70000 < fu) (a1 a2 a3 : Int32) (F0 : Int32) (F3 : xF64) (F11 : Int64) (o : xF64) : ∃ A' C' M1' M2' M3' F0' F1' F3' F4' F5' F11' o', f_C_5 fu a1 a2 a3 A P C D J r t d g M1 M2 M3 F0 F1 F3 F4 F5 F11 o = some (A', C', M1', M2', M3', F0', F1', F3', F4', F5', F11', o') ∧ RR (K + 1) A' (P, C', D, J, r, t, d, g) T0 T1 M0 M1' M2' M3' M4 F1' F2 F4' F5' F6 F7 F8 F9 F10 := by
  obtain ⟨t', e1, e2⟩ := k_rem (fu := fu) (by omega) F1 F3
  obtain ⟨fc, oc, s', z', c1, c2, c3⟩ := m_claim h.1 a1 a2 a3 F11
  rcases c3 with ⟨rfl, rfl, q1⟩ | ⟨rfl, rfl, q1⟩ | ⟨rfl, rfl, q1⟩ | ⟨rfl, rfl, v, C', c4, c5, rfl⟩
  · rw [q1] at c2
    have hx : f_X7_claim a1 a2 a3 A P C D J r t d g M1 M2 M3 = some (1, 0, A, C, M1, M2, M3) := by
      rw [f_X7_claim, c1, xb1_s, rf7, xb2_s]
      rfl
    have hy : f_X8_claim fu a1 a2 a3 F0 F1 F3 F4 F5 F11 = some (0, 1, F1, t', F4, F5, z') := by
      rw [f_X8_claim, e1, xb1_s, c2, xb3_s, ends_no (by decide) (by decide), xb4_s]
      rfl
    exact ⟨A, C, M1, M2, M3, 1, F1, t', F4, F5, z', o, z_5 (k := 1) (by rw [f_L_claim, hx, xb7_s]; rfl) hy rfl (fun q => absurd q (by decide)), h.mono (by omega)⟩
  · rw [q1] at c2
    have hx : f_X7_claim a1 a2 a3 A P C D J r t d g M1 M2 M3 = some (2, 0, A, C, M1, M2, M3) := by
      rw [f_X7_claim, c1, xb1_s, rf8, xb2_s]
      rfl
    have hy : f_X8_claim fu a1 a2 a3 F0 F1 F3 F4 F5 F11 = some (0, 2, F1, t', F4, F5, z') := by
      rw [f_X8_claim, e1, xb1_s, c2, xb3_s, ends_no (by decide) (by decide), xb4_s]
      rfl
    exact ⟨A, C, M1, M2, M3, 2, F1, t', F4, F5, z', o, z_5 (k := 2) (by rw [f_L_claim, hx, xb7_s]; rfl) hy rfl (fun q => absurd q (by decide)), h.mono (by omega)⟩
  · rw [q1] at c2
    have hx : f_X7_claim a1 a2 a3 A P C D J r t d g M1 M2 M3 = some (3, 0, A, C, M1, M2, M3) := by
      rw [f_X7_claim, c1, xb1_s, rf9, xb2_s]
      rfl
    have hy : f_X8_claim fu a1 a2 a3 F0 F1 F3 F4 F5 F11 = some (0, 3, F1, t', F4, F5, z') := by
      rw [f_X8_claim, e1, xb1_s, c2, xb3_s, ends_no (by decide) (by decide), xb4_s]
      rfl
    exact ⟨A, C, M1, M2, M3, 3, F1, t', F4, F5, z', o, z_5 (k := 3) (by rw [f_L_claim, hx, xb7_s]; rfl) hy rfl (fun q => absurd q (by decide)), h.mono (by omega)⟩
  · obtain ⟨A', M1', M2', F4', F5', r1, r2, r3, r4⟩ := h.rem (fu := fu) (by omega) e2
    have hx : f_X7_claim a1 a2 a3 A P C D J r t d g M1 M2 M3 = some (0, v, A', C', M1', M2', M3) := by
      rw [f_X7_claim, c1, xb1_s, rf0, xb2_s, if_pos rfl, r1, xb3_s, c4, xb2_s]
    have hy : f_X8_claim fu a1 a2 a3 F0 F1 F3 F4 F5 F11 = some (v, 0, s', t', F4', F5', v.toInt64) := by
      rw [f_X8_claim, e1, xb1_s, c2, xb3_s, ends_ok r2, xb4_s, y_ti]
    exact ⟨A', C', M1', M2', M3, 0, s', t', F4', F5', v.toInt64, vp_updL o 0 (v.toInt64), z_5 (k := 0) (by rw [f_L_claim, hx, xb7_s, if_pos rfl, y_xk y_i01, y_c0]) hy rfl (fun _ => y_us _ _ _), h.step r3 r4 (c5.mono (by omega))⟩
theorem s_6 {K : Int} (hK0 : 0 ≤ K) (hK : K ≤ 17900) {A : Nat → sAcc} {P : sPar} {C : sCla} {D : sDeb} {J : sJou} {r t : xF32} {d g : Int32} {T0 M0 M1 M2 M3 M4 F5 F6 F7 F9 F10 : Int32} {T1 F8 : xF32} {F1 F2 F4 : xF64} (h : RR (K) A (P, C, D, J, r, t, d, g) T0 T1 M0 M1 M2 M3 M4 F1 F2 F4 F5 F6 F7 F8 F9 F10) {fu : Nat} (hfu : 70000 < fu) (a1 a2 : Int32) (F0 : Int32) (F3 : xF64) (F11 : Int64) (o : xF64) : ∃ A' C' D' J' M1' M2' M3' F0' F1' F3' F4' F5' F7' F11' o', f_C_6 fu a1 a2 A P C D J r t d g M1 M2 M3 F0 F1 F3 F4 F5 F7 F11 o = some (A', C', D', J', M1', M2', M3', F0', F1', F3', F4', F5', F7', F11', o') ∧ RR (K + 1) A' (P, C', D', J', r, t, d, g) T0 T1 M0 M1' M2' M3' M4 F1' F2 F4' F5' F6 F7' F8 F9 F10 := by
  obtain ⟨t', e1, e2⟩ := k_rem (fu := fu) (by omega) F1 F3
  obtain ⟨fc, oc, s', F7', z', c1, c2, c3⟩ := m_award hK0 (by omega) h.1 (fu := fu) (by omega) a1 a2 F7 F11
  rcases c3 with ⟨rfl, rfl, q1, q2⟩ | ⟨rfl, rfl, q1, q2⟩ | ⟨q0, rfl, q1, q2⟩ | ⟨rfl, rfl, q2, C', D', J', L, c4, c5, c6, rfl⟩
  · rw [q1, q2] at c2
    have hx : f_X7_award fu a1 a2 A P C D J r t d g M1 M2 M3 = some (1, 0, A, C, D, J, M1, M2, M3) := by
      rw [f_X7_award, c1, xb1_s, rf7, xb2_s]
      rfl
    have hy : f_X8_award fu a1 a2 F0 F1 F3 F4 F5 F7 F11 = some (0, 1, F1, t', F4, F5, F7, z') := by
      rw [f_X8_award, e1, xb1_s, c2, xb4_s, ends_no (by decide) (by decide), xb4_s]
      rfl
    exact ⟨A, C, D, J, M1, M2, M3, 1, F1, t', F4, F5, F7, z', o, z_6 (k := 1) (by rw [f_L_award, hx, xb9_s]; rfl) hy rfl (fun q => absurd q (by decide)), h.mono (by omega)⟩
  · rw [q1, q2] at c2
    have hx : f_X7_award fu a1 a2 A P C D J r t d g M1 M2 M3 = some (2, 0, A, C, D, J, M1, M2, M3) := by
      rw [f_X7_award, c1, xb1_s, rf8, xb2_s]
      rfl
    have hy : f_X8_award fu a1 a2 F0 F1 F3 F4 F5 F7 F11 = some (0, 2, F1, t', F4, F5, F7, z') := by
      rw [f_X8_award, e1, xb1_s, c2, xb4_s, ends_no (by decide) (by decide), xb4_s]
      rfl
    exact ⟨A, C, D, J, M1, M2, M3, 2, F1, t', F4, F5, F7, z', o, z_6 (k := 2) (by rw [f_L_award, hx, xb9_s]; rfl) hy rfl (fun q => absurd q (by decide)), h.mono (by omega)⟩
  · rw [q1, q2] at c2
    have b1 : 1 ≤ fc.toInt ∧ fc.toInt ≤ 6 := by rcases q0 with rfl | rfl <;> decide
    have hx : f_X7_award fu a1 a2 A P C D J r t d g M1 M2 M3 = some (4, 0, A, C, D, J, M1, M2, fc) := by
      rw [f_X7_award, c1, xb1_s, rfK b1.1 b1.2, xb2_s]
      rfl
    have hy : f_X8_award fu a1 a2 F0 F1 F3 F4 F5 F7 F11 = some (0, 3, F1, t', F4, F5, fc, z') := by
      rw [f_X8_award, e1, xb1_s, c2, xb4_s, ends_why, xb4_s]
      rfl
    exact ⟨A, C, D, J, M1, M2, fc, 3, F1, t', F4, F5, fc, z', o, z_6 (k := 3) (by rw [f_L_award, hx, xb9_s]; rfl) hy rfl (fun q => absurd q (by decide)), h.why b1.1 b1.2⟩
  · rw [q2] at c2
    obtain ⟨A', M1', M2', F4', F5', r1, r2, r3, r4⟩ := h.rem (fu := fu) (by omega) e2
    have hx : f_X7_award fu a1 a2 A P C D J r t d g M1 M2 M3 = some (0, L, A', C', D', J', M1', M2', M3) := by
      rw [f_X7_award, c1, xb1_s, rf0, xb2_s, if_pos rfl, r1, xb3_s, c4, xb3_s, c6, xb1_s]
    have hy : f_X8_award fu a1 a2 F0 F1 F3 F4 F5 F7 F11 = some (L, 0, s', t', F4', F5', F7, L.toInt64) := by
      rw [f_X8_award, e1, xb1_s, c2, xb4_s, ends_ok r2, xb4_s, y_ti]
    exact ⟨A', C', D', J', M1', M2', M3, 0, s', t', F4', F5', F7, L.toInt64, vp_updL o 0 (L.toInt64), z_6 (k := 0) (by rw [f_L_award, hx, xb9_s, if_pos rfl, y_xk y_i01, y_c0]) hy rfl (fun _ => y_us _ _ _), h.step r3 r4 c5⟩
theorem s_7 {K : Int} (hK0 : 0 ≤ K) (hK : K ≤ 17900) {A : Nat → sAcc} {P : sPar} {C : sCla} {D : sDeb} {J : sJou} {r t : xF32} {d g : Int32} {T0 M0 M1 M2 M3 M4 F5 F6 F7 F9 F10 : Int32} {T1 F8 : xF32} {F1 F2 F4 : xF64} (h : RR (K) A (P, C, D, J, r, t, d, g) T0 T1 M0 M1 M2 M3 M4 F1 F2 F4 F5 F6 F7 F8 F9 F10) {fu : Nat} (hfu : 70000 < fu) (a1 a2 : Int32) (F0 : Int32) (F3 : xF64) (F11 : Int64) (o : xF64) : ∃ A' C' J' M1' M2' M3' F0' F1' F3' F4' F5' F7' F11' o', f_C_7 fu a1 a2 A P C D J r t d g M1 M2 M3 F0 F1 F3 F4 F5 F7 F11 o = some (A', C', J', M1', M2', M3', F0', F1', F3', F4', F5', F7', F11', o') ∧ RR (K + 1) A' (P, C', D, J', r, t, d, g) T0 T1 M0 M1' M2' M3' M4 F1' F2 F4' F5' F6 F7' F8 F9 F10 := by
  obtain ⟨t', e1, e2⟩ := k_rem (fu := fu) (by omega) F1 F3
  obtain ⟨fc, oc, s', F7', z', c1, c2, c3⟩ := m_dismiss hK0 (by omega) h.1 (fu := fu) (by omega) a1 a2 F7 F11
  rcases c3 with ⟨rfl, rfl, q1, q2⟩ | ⟨rfl, rfl, q1, q2⟩ | ⟨q0, rfl, q1, q2⟩ | ⟨rfl, rfl, q2, C', J', L, c4, c5, c6, rfl⟩
  · rw [q1, q2] at c2
    have hx : f_X7_dismiss fu a1 a2 A P C D J r t d g M1 M2 M3 = some (1, 0, A, C, J, M1, M2, M3) := by
      rw [f_X7_dismiss, c1, xb1_s, rf7, xb2_s]
      rfl
    have hy : f_X8_dismiss fu a1 a2 F0 F1 F3 F4 F5 F7 F11 = some (0, 1, F1, t', F4, F5, F7, z') := by
      rw [f_X8_dismiss, e1, xb1_s, c2, xb4_s, ends_no (by decide) (by decide), xb4_s]
      rfl
    exact ⟨A, C, J, M1, M2, M3, 1, F1, t', F4, F5, F7, z', o, z_7 (k := 1) (by rw [f_L_dismiss, hx, xb8_s]; rfl) hy rfl (fun q => absurd q (by decide)), h.mono (by omega)⟩
  · rw [q1, q2] at c2
    have hx : f_X7_dismiss fu a1 a2 A P C D J r t d g M1 M2 M3 = some (2, 0, A, C, J, M1, M2, M3) := by
      rw [f_X7_dismiss, c1, xb1_s, rf8, xb2_s]
      rfl
    have hy : f_X8_dismiss fu a1 a2 F0 F1 F3 F4 F5 F7 F11 = some (0, 2, F1, t', F4, F5, F7, z') := by
      rw [f_X8_dismiss, e1, xb1_s, c2, xb4_s, ends_no (by decide) (by decide), xb4_s]
      rfl
    exact ⟨A, C, J, M1, M2, M3, 2, F1, t', F4, F5, F7, z', o, z_7 (k := 2) (by rw [f_L_dismiss, hx, xb8_s]; rfl) hy rfl (fun q => absurd q (by decide)), h.mono (by omega)⟩
  · rw [q1, q2] at c2
    have b1 : 1 ≤ fc.toInt ∧ fc.toInt ≤ 6 := by rcases q0 with rfl | rfl <;> decide
    have hx : f_X7_dismiss fu a1 a2 A P C D J r t d g M1 M2 M3 = some (4, 0, A, C, J, M1, M2, fc) := by
      rw [f_X7_dismiss, c1, xb1_s, rfK b1.1 b1.2, xb2_s]
      rfl
    have hy : f_X8_dismiss fu a1 a2 F0 F1 F3 F4 F5 F7 F11 = some (0, 3, F1, t', F4, F5, fc, z') := by
      rw [f_X8_dismiss, e1, xb1_s, c2, xb4_s, ends_why, xb4_s]
      rfl
    exact ⟨A, C, J, M1, M2, fc, 3, F1, t', F4, F5, fc, z', o, z_7 (k := 3) (by rw [f_L_dismiss, hx, xb8_s]; rfl) hy rfl (fun q => absurd q (by decide)), h.why b1.1 b1.2⟩
  · rw [q2] at c2
    obtain ⟨A', M1', M2', F4', F5', r1, r2, r3, r4⟩ := h.rem (fu := fu) (by omega) e2
    have hx : f_X7_dismiss fu a1 a2 A P C D J r t d g M1 M2 M3 = some (0, L, A', C', J', M1', M2', M3) := by
      rw [f_X7_dismiss, c1, xb1_s, rf0, xb2_s, if_pos rfl, r1, xb3_s, c4, xb2_s, c6, xb1_s]
    have hy : f_X8_dismiss fu a1 a2 F0 F1 F3 F4 F5 F7 F11 = some (L, 0, s', t', F4', F5', F7, L.toInt64) := by
      rw [f_X8_dismiss, e1, xb1_s, c2, xb4_s, ends_ok r2, xb4_s, y_ti]
    exact ⟨A', C', J', M1', M2', M3, 0, s', t', F4', F5', F7, L.toInt64, vp_updL o 0 (L.toInt64), z_7 (k := 0) (by rw [f_L_dismiss, hx, xb8_s, if_pos rfl, y_xk y_i01, y_c0]) hy rfl (fun _ => y_us _ _ _), h.step r3 r4 c5⟩
theorem s_8 {K : Int} (hK0 : 0 ≤ K) (hK : K ≤ 17900) {A : Nat → sAcc} {P : sPar} {C : sCla} {D : sDeb} {J : sJou} {r t : xF32} {d g : Int32} {T0 M0 M1 M2 M3 M4 F5 F6 F7 F9 F10 : Int32} {T1 F8 : xF32} {F1 F2 F4 : xF64} (h : RR (K) A (P, C, D, J, r, t, d, g) T0 T1 M0 M1 M2 M3 M4 F1 F2 F4 F5 F6 F7 F8 F9 F10) {fu : Nat} (hfu : 70000 < fu) (a1 a2 : Int32) (F0 : Int32) (F3 : xF64) (F11 : Int64) (o : xF64) : ∃ A' C' J' M1' M2' M3' F0' F1' F3' F4' F5' F7' F11' o', f_C_8 fu a1 a2 A P C D J r t d g M1 M2 M3 F0 F1 F3 F4 F5 F7 F11 o = some (A', C', J', M1', M2', M3', F0', F1', F3', F4', F5', F7', F11', o') ∧ RR (K + 1) A' (P, C', D, J', r, t, d, g) T0 T1 M0 M1' M2' M3' M4 F1' F2 F4' F5' F6 F7' F8 F9 F10 := by
  obtain ⟨t', e1, e2⟩ := k_rem (fu := fu) (by omega) F1 F3
  obtain ⟨fc, oc, s', F7', z', c1, c2, c3⟩ := m_withdraw hK0 (by omega) h.1 (fu := fu) (by omega) a1 a2 F7 F11
  rcases c3 with ⟨rfl, rfl, q1, q2⟩ | ⟨rfl, rfl, q1, q2⟩ | ⟨q0, rfl, q1, q2⟩ | ⟨rfl, rfl, q2, C', J', L, c4, c5, c6, rfl⟩
  · rw [q1, q2] at c2
    have hx : f_X7_withdraw fu a1 a2 A P C D J r t d g M1 M2 M3 = some (1, 0, A, C, J, M1, M2, M3) := by
      rw [f_X7_withdraw, c1, xb1_s, rf7, xb2_s]
      rfl
    have hy : f_X8_withdraw fu a1 a2 F0 F1 F3 F4 F5 F7 F11 = some (0, 1, F1, t', F4, F5, F7, z') := by
      rw [f_X8_withdraw, e1, xb1_s, c2, xb4_s, ends_no (by decide) (by decide), xb4_s]
      rfl
    exact ⟨A, C, J, M1, M2, M3, 1, F1, t', F4, F5, F7, z', o, z_8 (k := 1) (by rw [f_L_withdraw, hx, xb8_s]; rfl) hy rfl (fun q => absurd q (by decide)), h.mono (by omega)⟩
  · rw [q1, q2] at c2
    have hx : f_X7_withdraw fu a1 a2 A P C D J r t d g M1 M2 M3 = some (2, 0, A, C, J, M1, M2, M3) := by
      rw [f_X7_withdraw, c1, xb1_s, rf8, xb2_s]
      rfl
    have hy : f_X8_withdraw fu a1 a2 F0 F1 F3 F4 F5 F7 F11 = some (0, 2, F1, t', F4, F5, F7, z') := by
      rw [f_X8_withdraw, e1, xb1_s, c2, xb4_s, ends_no (by decide) (by decide), xb4_s]
      rfl
    exact ⟨A, C, J, M1, M2, M3, 2, F1, t', F4, F5, F7, z', o, z_8 (k := 2) (by rw [f_L_withdraw, hx, xb8_s]; rfl) hy rfl (fun q => absurd q (by decide)), h.mono (by omega)⟩
  · rw [q1, q2] at c2
    have b1 : 1 ≤ fc.toInt ∧ fc.toInt ≤ 6 := by rcases q0 with rfl | rfl <;> decide
    have hx : f_X7_withdraw fu a1 a2 A P C D J r t d g M1 M2 M3 = some (4, 0, A, C, J, M1, M2, fc) := by
      rw [f_X7_withdraw, c1, xb1_s, rfK b1.1 b1.2, xb2_s]
      rfl
    have hy : f_X8_withdraw fu a1 a2 F0 F1 F3 F4 F5 F7 F11 = some (0, 3, F1, t', F4, F5, fc, z') := by
      rw [f_X8_withdraw, e1, xb1_s, c2, xb4_s, ends_why, xb4_s]
      rfl
    exact ⟨A, C, J, M1, M2, fc, 3, F1, t', F4, F5, fc, z', o, z_8 (k := 3) (by rw [f_L_withdraw, hx, xb8_s]; rfl) hy rfl (fun q => absurd q (by decide)), h.why b1.1 b1.2⟩
  · rw [q2] at c2
    obtain ⟨A', M1', M2', F4', F5', r1, r2, r3, r4⟩ := h.rem (fu := fu) (by omega) e2
    have hx : f_X7_withdraw fu a1 a2 A P C D J r t d g M1 M2 M3 = some (0, L, A', C', J', M1', M2', M3) := by
      rw [f_X7_withdraw, c1, xb1_s, rf0, xb2_s, if_pos rfl, r1, xb3_s, c4, xb2_s, c6, xb1_s]
    have hy : f_X8_withdraw fu a1 a2 F0 F1 F3 F4 F5 F7 F11 = some (L, 0, s', t', F4', F5', F7, L.toInt64) := by
      rw [f_X8_withdraw, e1, xb1_s, c2, xb4_s, ends_ok r2, xb4_s, y_ti]
    exact ⟨A', C', J', M1', M2', M3, 0, s', t', F4', F5', F7, L.toInt64, vp_updL o 0 (L.toInt64), z_8 (k := 0) (by rw [f_L_withdraw, hx, xb8_s, if_pos rfl, y_xk y_i01, y_c0]) hy rfl (fun _ => y_us _ _ _), h.step r3 r4 c5⟩
theorem s_16 {K : Int} (hK0 : 0 ≤ K) (hK : K ≤ 17900) {A : Nat → sAcc} {P : sPar} {C : sCla} {D : sDeb} {J : sJou} {r t : xF32} {d g : Int32} {T0 M0 M1 M2 M3 M4 F5 F6 F7 F9 F10 : Int32} {T1 F8 : xF32} {F1 F2 F4 : xF64} (h : RR (K) A (P, C, D, J, r, t, d, g) T0 T1 M0 M1 M2 M3 M4 F1 F2 F4 F5 F6 F7 F8 F9 F10) {fu : Nat} (hfu : 70000 < fu) (a1 a2 : Int32) (F0 : Int32) (F3 : xF64) (F11 : Int64) (o : xF64) : ∃ A' P' J' M1' M2' M3' F0' F1' F3' F4' F5' F11' o', f_C_16 fu a1 a2 A P C D J r t d g M1 M2 M3 F0 F1 F3 F4 F5 F11 o = some (A', P', J', M1', M2', M3', F0', F1', F3', F4', F5', F11', o') ∧ RR (K + 1) A' (P', C, D, J', r, t, d, g) T0 T1 M0 M1' M2' M3' M4 F1' F2 F4' F5' F6 F7 F8 F9 F10 := by
  obtain ⟨t', e1, e2⟩ := k_rem (fu := fu) (by omega) F1 F3
  obtain ⟨fc, oc, s', z', c1, c2, c3⟩ := m_pay hK0 (by omega) h.1 (fu := fu) (by omega) a1 a2 F11
  rcases c3 with ⟨rfl, rfl, q1⟩ | ⟨rfl, rfl, q1⟩ | ⟨rfl, rfl, P', J', c4, c5, c6⟩
  · rw [q1] at c2
    have hx : f_X7_pay fu a1 a2 A P C D J r t d g M1 M2 M3 = some (1, 0, A, P, J, M1, M2, M3) := by
      rw [f_X7_pay, c1, xb1_s, rf7, xb2_s]
      rfl
    have hy : f_X8_pay fu a1 a2 F0 F1 F3 F4 F5 F11 = some (0, 1, F1, t', F4, F5, z') := by
      rw [f_X8_pay, e1, xb1_s, c2, xb3_s, ends_no (by decide) (by decide), xb4_s]
    exact ⟨A, P, J, M1, M2, M3, 1, F1, t', F4, F5, z', o, z_16 (k := 1) (by rw [f_L_pay, hx, xb8_s]; rfl) hy rfl (fun q => absurd q (by decide)), h.mono (by omega)⟩
  · rw [q1] at c2
    have hx : f_X7_pay fu a1 a2 A P C D J r t d g M1 M2 M3 = some (2, 0, A, P, J, M1, M2, M3) := by
      rw [f_X7_pay, c1, xb1_s, rf8, xb2_s]
      rfl
    have hy : f_X8_pay fu a1 a2 F0 F1 F3 F4 F5 F11 = some (0, 2, F1, t', F4, F5, z') := by
      rw [f_X8_pay, e1, xb1_s, c2, xb3_s, ends_no (by decide) (by decide), xb4_s]
    exact ⟨A, P, J, M1, M2, M3, 2, F1, t', F4, F5, z', o, z_16 (k := 2) (by rw [f_L_pay, hx, xb8_s]; rfl) hy rfl (fun q => absurd q (by decide)), h.mono (by omega)⟩
  · obtain ⟨A', M1', M2', F4', F5', r1, r2, r3, r4⟩ := h.rem (fu := fu) (by omega) e2
    have hx : f_X7_pay fu a1 a2 A P C D J r t d g M1 M2 M3 = some (0, z', A', P', J', M1', M2', M3) := by
      rw [f_X7_pay, c1, xb1_s, rf0, xb2_s, if_pos rfl, r1, xb3_s, c4, xb2_s, c6, xb1_s]
    have hy : f_X8_pay fu a1 a2 F0 F1 F3 F4 F5 F11 = some (z', 0, s', t', F4', F5', z') := by
      rw [f_X8_pay, e1, xb1_s, c2, xb3_s, ends_ok r2, xb4_s]
    exact ⟨A', P', J', M1', M2', M3, 0, s', t', F4', F5', z', vp_updL o 0 (z'), z_16 (k := 0) (by rw [f_L_pay, hx, xb8_s, if_pos rfl, y_xk y_i01, y_c0]) hy rfl (fun _ => y_us _ _ _), h.step r3 r4 c5⟩
theorem s_22 {K : Int} (hK0 : 0 ≤ K) (hK : K ≤ 17900) {A : Nat → sAcc} {P : sPar} {C : sCla} {D : sDeb} {J : sJou} {r t : xF32} {d g : Int32} {T0 M0 M1 M2 M3 M4 F5 F6 F7 F9 F10 : Int32} {T1 F8 : xF32} {F1 F2 F4 : xF64} (h : RR (K) A (P, C, D, J, r, t, d, g) T0 T1 M0 M1 M2 M3 M4 F1 F2 F4 F5 F6 F7 F8 F9 F10) {fu : Nat} (hfu : 70000 < fu) (a1 a2 a3 : Int32) (F0 : Int32) (F3 : xF64) (F11 : Int64) (o : xF64) : ∃ A' D' J' M1' M2' M3' F0' F1' F3' F4' F5' F7' F11' o', f_C_22 fu a1 a2 a3 A P C D J r t d g M1 M2 M3 F0 F1 F3 F4 F5 F7 F11 o = some (A', D', J', M1', M2', M3', F0', F1', F3', F4', F5', F7', F11', o') ∧ RR (K + 1) A' (P, C, D', J', r, t, d, g) T0 T1 M0 M1' M2' M3' M4 F1' F2 F4' F5' F6 F7' F8 F9 F10 := by
  obtain ⟨t', e1, e2⟩ := k_rem (fu := fu) (by omega) F1 F3
  obtain ⟨fc, oc, s', F7', z', c1, c2, c3⟩ := m_settle hK0 (by omega) h.1 (fu := fu) (by omega) a1 a2 a3 F7 F11
  rcases c3 with ⟨rfl, rfl, q1, q2⟩ | ⟨rfl, rfl, q1, q2⟩ | ⟨q0, rfl, q1, q2⟩ | ⟨rfl, rfl, q2, D', J', c4, c5, c6⟩
  · rw [q1, q2] at c2
    have hx : f_X7_settle fu a1 a2 a3 A P C D J r t d g M1 M2 M3 = some (1, 0, A, D, J, M1, M2, M3) := by
      rw [f_X7_settle, c1, xb1_s, rf7, xb2_s]
      rfl
    have hy : f_X8_settle fu a1 a2 a3 F0 F1 F3 F4 F5 F7 F11 = some (0, 1, F1, t', F4, F5, F7, z') := by
      rw [f_X8_settle, e1, xb1_s, c2, xb4_s, ends_no (by decide) (by decide), xb4_s]
    exact ⟨A, D, J, M1, M2, M3, 1, F1, t', F4, F5, F7, z', o, z_22 (k := 1) (by rw [f_L_settle, hx, xb8_s]; rfl) hy rfl (fun q => absurd q (by decide)), h.mono (by omega)⟩
  · rw [q1, q2] at c2
    have hx : f_X7_settle fu a1 a2 a3 A P C D J r t d g M1 M2 M3 = some (2, 0, A, D, J, M1, M2, M3) := by
      rw [f_X7_settle, c1, xb1_s, rf8, xb2_s]
      rfl
    have hy : f_X8_settle fu a1 a2 a3 F0 F1 F3 F4 F5 F7 F11 = some (0, 2, F1, t', F4, F5, F7, z') := by
      rw [f_X8_settle, e1, xb1_s, c2, xb4_s, ends_no (by decide) (by decide), xb4_s]
    exact ⟨A, D, J, M1, M2, M3, 2, F1, t', F4, F5, F7, z', o, z_22 (k := 2) (by rw [f_L_settle, hx, xb8_s]; rfl) hy rfl (fun q => absurd q (by decide)), h.mono (by omega)⟩
  · rw [q1, q2, ← q0] at c2
    have b1 : 1 ≤ fc.toInt ∧ fc.toInt ≤ 6 := by subst q0; decide
    have hx : f_X7_settle fu a1 a2 a3 A P C D J r t d g M1 M2 M3 = some (4, 0, A, D, J, M1, M2, fc) := by
      rw [f_X7_settle, c1, xb1_s, rfK b1.1 b1.2, xb2_s]
      rfl
    have hy : f_X8_settle fu a1 a2 a3 F0 F1 F3 F4 F5 F7 F11 = some (0, 3, F1, t', F4, F5, fc, z') := by
      rw [f_X8_settle, e1, xb1_s, c2, xb4_s, ends_why, xb4_s]
    exact ⟨A, D, J, M1, M2, fc, 3, F1, t', F4, F5, fc, z', o, z_22 (k := 3) (by rw [f_L_settle, hx, xb8_s]; rfl) hy rfl (fun q => absurd q (by decide)), h.why b1.1 b1.2⟩
  · rw [q2] at c2
    obtain ⟨A', M1', M2', F4', F5', r1, r2, r3, r4⟩ := h.rem (fu := fu) (by omega) e2
    have hx : f_X7_settle fu a1 a2 a3 A P C D J r t d g M1 M2 M3 = some (0, z', A', D', J', M1', M2', M3) := by
      rw [f_X7_settle, c1, xb1_s, rf0, xb2_s, if_pos rfl, r1, xb3_s, c4, xb2_s, c6, xb1_s]
    have hy : f_X8_settle fu a1 a2 a3 F0 F1 F3 F4 F5 F7 F11 = some (z', 0, s', t', F4', F5', F7, z') := by
      rw [f_X8_settle, e1, xb1_s, c2, xb4_s, ends_ok r2, xb4_s]
    exact ⟨A', D', J', M1', M2', M3, 0, s', t', F4', F5', F7, z', vp_updL o 0 (z'), z_22 (k := 0) (by rw [f_L_settle, hx, xb8_s, if_pos rfl, y_xk y_i01, y_c0]) hy rfl (fun _ => y_us _ _ _), h.step r3 r4 c5⟩
theorem s_28 {K : Int} (hK0 : 0 ≤ K) (hK : K ≤ 17900) {A : Nat → sAcc} {P : sPar} {C : sCla} {D : sDeb} {J : sJou} {r t : xF32} {d g : Int32} {T0 M0 M1 M2 M3 M4 F5 F6 F7 F9 F10 : Int32} {T1 F8 : xF32} {F1 F2 F4 : xF64} (h : RR (K) A (P, C, D, J, r, t, d, g) T0 T1 M0 M1 M2 M3 M4 F1 F2 F4 F5 F6 F7 F8 F9 F10) {fu : Nat} (hfu : 70000 < fu) (a1 : Int32) (F0 : Int32) (F3 : xF64) (F11 : Int64) (o : xF64) : ∃ A' D' d' M1' M2' M3' F0' F1' F3' F4' F5' F11' o', f_C_28 fu a1 A P C D J r t d g M1 M2 M3 F0 F1 F3 F4 F5 F11 o = some (A', D', d', M1', M2', M3', F0', F1', F3', F4', F5', F11', o') ∧ RR (K + 1) A' (P, C, D', J, r, t, d', g) T0 T1 M0 M1' M2' M3' M4 F1' F2 F4' F5' F6 F7 F8 F9 F10 := by
  obtain ⟨t', e1, e2⟩ := k_rem (fu := fu) (by omega) F1 F3
  obtain ⟨fc, oc, s', z', c1, c2, c3⟩ := m_pass hK0 (by omega) h.1 (fu := fu) (by omega) a1 F11
  rcases c3 with ⟨rfl, rfl, q1⟩ | ⟨rfl, rfl, q1⟩ | ⟨rfl, rfl, D', d', c4, c5⟩
  · rw [q1] at c2
    have hx : f_X7_pass fu a1 A P C D J r t d g M1 M2 M3 = some (2, 0, A, D, d, M1, M2, M3) := by
      rw [f_X7_pass, c1, xb1_s, rf8, xb2_s]
      rfl
    have hy : f_X8_pass fu a1 F0 F1 F3 F4 F5 F11 = some (0, 1, F1, t', F4, F5, z') := by
      rw [f_X8_pass, e1, xb1_s, c2, xb3_s, ends_no (by decide) (by decide), xb4_s]
    exact ⟨A, D, d, M1, M2, M3, 1, F1, t', F4, F5, z', o, z_28 (k := 1) (by rw [f_L_pass, hx, xb8_s]; rfl) hy rfl (fun q => absurd q (by decide)), h.mono (by omega)⟩
  · rw [q1] at c2
    have hx : f_X7_pass fu a1 A P C D J r t d g M1 M2 M3 = some (3, 0, A, D, d, M1, M2, M3) := by
      rw [f_X7_pass, c1, xb1_s, rf9, xb2_s]
      rfl
    have hy : f_X8_pass fu a1 F0 F1 F3 F4 F5 F11 = some (0, 2, F1, t', F4, F5, z') := by
      rw [f_X8_pass, e1, xb1_s, c2, xb3_s, ends_no (by decide) (by decide), xb4_s]
    exact ⟨A, D, d, M1, M2, M3, 2, F1, t', F4, F5, z', o, z_28 (k := 2) (by rw [f_L_pass, hx, xb8_s]; rfl) hy rfl (fun q => absurd q (by decide)), h.mono (by omega)⟩
  · obtain ⟨A', M1', M2', F4', F5', r1, r2, r3, r4⟩ := h.rem (fu := fu) (by omega) e2
    have hx : f_X7_pass fu a1 A P C D J r t d g M1 M2 M3 = some (0, z', A', D', d', M1', M2', M3) := by
      rw [f_X7_pass, c1, xb1_s, rf0, xb2_s, if_pos rfl, r1, xb3_s, c4, xb3_s]
    have hy : f_X8_pass fu a1 F0 F1 F3 F4 F5 F11 = some (z', 0, s', t', F4', F5', z') := by
      rw [f_X8_pass, e1, xb1_s, c2, xb3_s, ends_ok r2, xb4_s]
    exact ⟨A', D', d', M1', M2', M3, 0, s', t', F4', F5', z', vp_updL o 0 (z'), z_28 (k := 0) (by rw [f_L_pass, hx, xb8_s, if_pos rfl, y_xk y_i01, y_c0]) hy rfl (fun _ => y_us _ _ _), h.step r3 r4 c5⟩
theorem s_29 {K : Int} (hK0 : 0 ≤ K) (hK : K ≤ 17900) {A : Nat → sAcc} {P : sPar} {C : sCla} {D : sDeb} {J : sJou} {r t : xF32} {d g : Int32} {T0 M0 M1 M2 M3 M4 F5 F6 F7 F9 F10 : Int32} {T1 F8 : xF32} {F1 F2 F4 : xF64} (h : RR (K) A (P, C, D, J, r, t, d, g) T0 T1 M0 M1 M2 M3 M4 F1 F2 F4 F5 F6 F7 F8 F9 F10) {fu : Nat} (hfu : 70000 < fu) (F0 : Int32) (F3 : xF64) (F11 : Int64) (o : xF64) : ∃ A' g' M1' M2' M3' F0' F1' F3' F4' F5' F11' o', f_C_29 fu A P C D J r t d g M1 M2 M3 F0 F1 F3 F4 F5 F11 o = some (A', g', M1', M2', M3', F0', F1', F3', F4', F5', F11', o') ∧ RR (K + 1) A' (P, C, D, J, r, t, d, g') T0 T1 M0 M1' M2' M3' M4 F1' F2 F4' F5' F6 F7 F8 F9 F10 := by
  obtain ⟨t', e1, e2⟩ := k_rem (fu := fu) (by omega) F1 F3
  obtain ⟨fc, oc, s', z', c1, c2, c3⟩ := m_goOn h.1 F11
  rcases c3 with ⟨rfl, rfl, q1⟩ | ⟨rfl, rfl, g', c4, c5, rfl⟩
  · rw [q1] at c2
    have hx : f_X7_goOn A P C D J r t d g M1 M2 M3 = some (3, 0, A, g, M1, M2, M3) := by
      rw [f_X7_goOn, c1, xb1_s, rf9, xb2_s]
      rfl
    have hy : f_X8_goOn fu F0 F1 F3 F4 F5 F11 = some (0, 1, F1, t', F4, F5, z') := by
      rw [f_X8_goOn, e1, xb1_s, c2, xb3_s, ends_no (by decide) (by decide), xb4_s]
      rfl
    exact ⟨A, g, M1, M2, M3, 1, F1, t', F4, F5, z', o, z_29 (k := 1) (by rw [f_L_goOn, hx, xb7_s]; rfl) hy rfl (fun q => absurd q (by decide)), h.mono (by omega)⟩
  · obtain ⟨A', M1', M2', F4', F5', r1, r2, r3, r4⟩ := h.rem (fu := fu) (by omega) e2
    have hx : f_X7_goOn A P C D J r t d g M1 M2 M3 = some (0, g', A', g', M1', M2', M3) := by
      rw [f_X7_goOn, c1, xb1_s, rf0, xb2_s, if_pos rfl, r1, xb3_s, c4, xb1_s]
    have hy : f_X8_goOn fu F0 F1 F3 F4 F5 F11 = some (g', 0, s', t', F4', F5', g'.toInt64) := by
      rw [f_X8_goOn, e1, xb1_s, c2, xb3_s, ends_ok r2, xb4_s, y_ti]
    exact ⟨A', g', M1', M2', M3, 0, s', t', F4', F5', g'.toInt64, vp_updL o 0 (g'.toInt64), z_29 (k := 0) (by rw [f_L_goOn, hx, xb7_s, if_pos rfl, y_xk y_i01, y_c0]) hy rfl (fun _ => y_us _ _ _), h.step r3 r4 (c5.mono (by omega))⟩
