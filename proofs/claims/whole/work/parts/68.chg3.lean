-- payments for another, offsets, rings cleared
theorem d_owedP {n : Nat} {D : sDeb} {s : xF64} (h : RD n D s) {K : Int} (hK : K ≤ 20000) (v2 : VD2 K n D) (hpr : ∀ k, k < n → (D.2.2.2.1 k).toInt ≤ 3584100000000) {fu : Nat} (hfu : 40 < fu) (x y : Int32) : ∃ v, f_X2_owedBy fu x y D = some v ∧ f_X8_owedBy fu x y s = some v ∧ 0 ≤ v.toInt := by
  obtain ⟨v, w1, w2, w3⟩ := d_owed h hfu x y
  refine ⟨v, w1, w2, ?_⟩
  rcases w3 with ⟨rfl, -⟩ | ⟨i, hi, -, -, rfl⟩
  · decide
  · have b := v2 i hi
    have bp := hpr i hi
    rw [y_addL (by omega) (by omega)]
    omega
theorem s_17 {K : Int} (hK0 : 0 ≤ K) (hK : K ≤ 17900) {A : Nat → sAcc} {P : sPar} {C : sCla} {D : sDeb} {J : sJou} {r t : xF32} {d g : Int32} {T0 M0 M1 M2 M3 M4 F5 F6 F7 F9 F10 : Int32} {T1 F8 : xF32} {F1 F2 F4 : xF64} (h : RR (K) A (P, C, D, J, r, t, d, g) T0 T1 M0 M1 M2 M3 M4 F1 F2 F4 F5 F6 F7 F8 F9 F10) {fu : Nat} (hfu : 70000 < fu) (a1 a2 : Int32) (F0 : Int32) (F3 : xF64) (o : xF64) : ∃ A' P' D' J' M1' M2' M3' F0' F1' F3' F4' F5' o', f_C_17 fu a1 a2 A P C D J r t d g M1 M2 M3 F0 F1 F3 F4 F5 o = some (A', P', D', J', M1', M2', M3', F0', F1', F3', F4', F5', o') ∧ RR (K + 1) A' (P', C, D', J', r, t, d, g) T0 T1 M0 M1' M2' M3' M4 F1' F2 F4' F5' F6 F7 F8 F9 F10 := by
  obtain ⟨n, c, m, j, dn, gn, hP, vP, hC, vC, hD, v1, v2, v3, hJ, h0⟩ := h.1.get
  have hn := hP.1
  have hc := hC.1
  have hm := hD.1
  have o1 : ¬ (1 : Int32) = 0 := by decide
  obtain ⟨t', e1, e2⟩ := k_rem (fu := fu) (by omega) F1 F3
  rcases p_both hP a1 a2 with ⟨b1, b2⟩ | ⟨b1, b2, b3, i, i', hi, hi', rfl, rfl⟩
  · have c1 : f_X0_faultOfPaymentFor a1 a2 P = some 7 := by rw [f_X0_faultOfPaymentFor, b1, xb1_s, if_pos rfl]
    rcases b2 with b2 | ⟨b2, b3⟩
    · skip
      have hx : f_X7_payFor fu a1 a2 A P C D J r t d g M1 M2 M3 = some (1, 0, A, P, D, J, M1, M2, M3) := by
        rw [f_X7_payFor, c1, xb1_s, rf7, xb2_s]
        rfl
      have hy : f_X8_payFor fu a1 a2 F0 F1 F3 F4 F5 = some (0, 1, F1, t', F4, F5) := by rw [f_X8_payFor, e1, xb1_s, b2, xb1_s, if_pos rfl, f_X8_failsLong, xb2_s]
      exact ⟨A, P, D, J, M1, M2, M3, 1, F1, t', F4, F5, o, z_17 (k := 1) (by rw [f_L_payFor, hx, xb9_s]; rfl) hy rfl (fun q => absurd q (by decide)), h.mono (by omega)⟩
    · skip
      have hx : f_X7_payFor fu a1 a2 A P C D J r t d g M1 M2 M3 = some (1, 0, A, P, D, J, M1, M2, M3) := by
        rw [f_X7_payFor, c1, xb1_s, rf7, xb2_s]
        rfl
      have hy : f_X8_payFor fu a1 a2 F0 F1 F3 F4 F5 = some (0, 1, F1, t', F4, F5) := by rw [f_X8_payFor, e1, xb1_s, b2, xb1_s, if_neg o1, b3, xb1_s, if_pos rfl, f_X8_failsLong, xb2_s]
      exact ⟨A, P, D, J, M1, M2, M3, 1, F1, t', F4, F5, o, z_17 (k := 1) (by rw [f_L_payFor, hx, xb9_s]; rfl) hy rfl (fun q => absurd q (by decide)), h.mono (by omega)⟩
  by_cases ce : nI i = nI i'
  · have c1 : f_X0_faultOfPaymentFor (nI i) (nI i') P = some 8 := by rw [f_X0_faultOfPaymentFor, b1, xb1_s, if_neg o1, if_pos ce]
    have hx : f_X7_payFor fu (nI i) (nI i') A P C D J r t d g M1 M2 M3 = some (2, 0, A, P, D, J, M1, M2, M3) := by
      rw [f_X7_payFor, c1, xb1_s, rf8, xb2_s]
      rfl
    have hy : f_X8_payFor fu (nI i) (nI i') F0 F1 F3 F4 F5 = some (0, 2, F1, t', F4, F5) := by rw [f_X8_payFor, e1, xb1_s, b2, xb1_s, if_neg o1, b3, xb1_s, if_neg o1, if_pos ce, f_X8_failsLong, xb2_s]
    exact ⟨A, P, D, J, M1, M2, M3, 2, F1, t', F4, F5, o, z_17 (k := 2) (by rw [f_L_payFor, hx, xb9_s]; rfl) hy rfl (fun q => absurd q (by decide)), h.mono (by omega)⟩
  have cne : i' ≠ i := fun q => ce (by rw [q])
  obtain ⟨p1, p2⟩ := p_short hP (by omega) vP hi'
  obtain ⟨m1, m2, m3, m4, m5, m6⟩ := hP.2.2.2.1 i' hi'
  obtain ⟨x1, x2, x3, x4, x5, x6, x7⟩ := vP i' hi'
  have es : (P.2.2.2.1 i' - P.2.2.2.2.1 i').toInt = (P.2.2.2.1 i').toInt - (P.2.2.2.2.1 i').toInt := y_subL (by omega) (by omega)
  obtain ⟨t1, t2, t3⟩ := y_max0T (P.2.2.2.1 i' - P.2.2.2.2.1 i')
  obtain ⟨S, hS⟩ : ∃ S, S = xmaxL 0 (P.2.2.2.1 i' - P.2.2.2.2.1 i') := ⟨_, rfl⟩
  rw [← hS] at p1 p2 t1 t2 t3
  by_cases cs : S.toInt = 0
  · have cs0 : S = 0 := (y_eq64 _ _).mpr cs
    subst cs0
    have c1 : f_X0_faultOfPaymentFor (nI i) (nI i') P = some 9 := by
      have l0 : (0 : Int64) ≤ 0 := by decide
      rw [f_X0_faultOfPaymentFor, b1, xb1_s, if_neg o1, if_neg ce, p1, xb1_s, if_pos l0]
    have hx : f_X7_payFor fu (nI i) (nI i') A P C D J r t d g M1 M2 M3 = some (3, 0, A, P, D, J, M1, M2, M3) := by
      rw [f_X7_payFor, c1, xb1_s, rf9, xb2_s]
      rfl
    have hy : f_X8_payFor fu (nI i) (nI i') F0 F1 F3 F4 F5 = some (0, 3, F1, t', F4, F5) := by rw [f_X8_payFor, e1, xb1_s, b2, xb1_s, if_neg o1, b3, xb1_s, if_neg o1, if_neg ce, p2, xb1_s, if_pos rfl, f_X8_failsLong, xb2_s]
    exact ⟨A, P, D, J, M1, M2, M3, 3, F1, t', F4, F5, o, z_17 (k := 3) (by rw [f_L_payFor, hx, xb9_s]; rfl) hy rfl (fun q => absurd q (by decide)), h.mono (by omega)⟩
  have cs0 : ¬ S ≤ 0 := by
    rw [y_le64, y_z]
    omega
  have cs1 : ¬ S = 0 := fun q => cs (by rw [q]; rfl)
  have c1 : f_X0_faultOfPaymentFor (nI i) (nI i') P = some 0 := by
    rw [f_X0_faultOfPaymentFor, b1, xb1_s, if_neg o1, if_neg ce, p1, xb1_s, if_neg cs0]
  obtain ⟨A', M1', M2', F4', F5', r1, r2, r3, r4⟩ := h.rem (fu := fu) (by omega) e2
  have et : (P.2.2.2.2.1 i' + S).toInt = (P.2.2.2.2.1 i').toInt + S.toInt := y_addL (by omega) (by omega)
  obtain ⟨u, hu⟩ : ∃ u : xF64, u = vp_updL F1 (32 + i') (P.2.2.2.2.1 i' + S) := ⟨_, rfl⟩
  have hP1 := p_set32 hP hi' (P.2.2.2.2.1 i' + S)
  rw [← hu] at hP1
  have fu1 : ∀ k, k < 32 ∨ 38 ≤ k → u k = F1 k := fun k hk => by rw [hu, y_un (by omega)]
  have hpr := y_prb hK0 (by omega) hn vP v1 v3
  have hia : (nI i').toNatClampNeg = i' := y_cl (by omega)
  obtain ⟨m', D', s2, d1, d2, d3, d4, d5, d6, d7⟩ := d_owes (hD.frame (t := u) (fun k hk => fu1 k (by omega))) hn v1 v2 hK0 (L := K + 1) (by omega) (fu := fu) (by omega) hi' hi cne S (by omega) (β0 := fun x => (P.2.2.2.2.1 x.toNatClampNeg).toInt + K * 100000000) (β1 := fun x => (vp_updL P.2.2.2.2.1 i' (P.2.2.2.2.1 i' + S) x.toNatClampNeg).toInt + K * 100000000) v3 (fun x => by
    show (P.2.2.2.2.1 x.toNatClampNeg).toInt + K * 100000000 ≤ (vp_updL P.2.2.2.2.1 i' (P.2.2.2.2.1 i' + S) x.toNatClampNeg).toInt + K * 100000000
    by_cases e : x.toNatClampNeg = i'
    · rw [e, y_us]; omega
    · rw [y_un e]; omega) (by
    show (P.2.2.2.2.1 (nI i').toNatClampNeg).toInt + K * 100000000 + S.toInt ≤ (vp_updL P.2.2.2.2.1 i' (P.2.2.2.2.1 i' + S) (nI i').toNatClampNeg).toInt + K * 100000000
    rw [hia, y_us]; omega) (by
    show 0 ≤ (P.2.2.2.2.1 (nI i').toNatClampNeg).toInt + K * 100000000
    rw [hia]; omega) (by
    show (vp_updL P.2.2.2.2.1 i' (P.2.2.2.2.1 i' + S) (nI i').toNatClampNeg).toInt + K * 100000000 < 9000000000000000000
    rw [hia, y_us]; omega)
  obtain ⟨j', J', s3, j1, j2, j3, j4⟩ := j_add (hJ.frame (t := s2) (fun k hk => by rw [d4 k (by omega) (by omega), fu1 k (by omega)])) (fu := fu) (by omega) 5 S
  have hfr : ∀ k, ¬ (32 ≤ k ∧ k < 38) → k ≠ 4 → ¬ (122 ≤ k ∧ k < 272) → k ≠ 5 → ¬ (272 ≤ k ∧ k < 304) → s3 k = F1 k := fun k k1 k2 k3 k4 k5 => by rw [j4 k k4 k5, d4 k k2 k3, fu1 k (by omega)]
  obtain ⟨P', hP'⟩ : ∃ P' : sPar, P' = (P.1, P.2.1, P.2.2.1, P.2.2.2.1, vp_updL P.2.2.2.2.1 i' (P.2.2.2.2.1 i' + S), P.2.2.2.2.2.1, P.2.2.2.2.2.2) := ⟨_, rfl⟩
  have hx : f_X7_payFor fu (nI i) (nI i') A P C D J r t d g M1 M2 M3 = some (0, S, A', P', D', J', M1', M2', M3) := by
    have x6 : xin (nI i') 6 = true := y_in (by omega) (by omega)
    rw [f_X7_payFor, c1, xb1_s, rf0, xb2_s, if_pos rfl, r1, xb3_s, f_X0_makePaymentFor, p1, xb1_s, f_X0_makePayment, y_xk x6, y_xk x6, hia, j1, xb1_s, xb2_s, d1, xb1_s, xb4_s, ← hP']
  have hy : f_X8_payFor fu (nI i) (nI i') F0 F1 F3 F4 F5 = some (S, 0, s3, t', F4', F5') := by
    have ea : 32 + nI i' = nI (32 + i') := nI_add 32 i'
    rw [f_X8_payFor, e1, xb1_s, b2, xb1_s, if_neg o1, b3, xb1_s, if_neg o1, if_neg ce, p2, xb1_s, if_neg cs1, ea, y_xk (y_in (by omega) (by omega)), y_xk (y_in (by omega) (by omega)), y_cl (by omega), m4, ← hu, d2, xb1_s, j2, xb1_s, r2, xb2_s]
  refine ⟨A', P', D', J', M1', M2', M3, 0, s3, t', F4', F5', vp_updL o 0 S, z_17 (k := 0) (by rw [f_L_payFor, hx, xb9_s, if_pos rfl, y_xk y_i01, y_c0]) hy rfl (fun _ => y_us _ _ _), h.step r3 r4 ⟨n, c, m', j', dn, gn, ?_, ?_, hC.frame (fun k hk => hfr k (by omega) (by omega) (by omega) (by omega) (by omega)), vC, d3.frame (fun k hk => j4 k (by omega) (by omega)), d5, d6, fun k hk => ?_, j3, h0.frame (fun k hk => hfr k (by omega) (by omega) (by omega) (by omega) (by omega))⟩⟩
  · show RP n P' s3
    rw [hP']
    exact hP1.frame (fun k hk => by rw [j4 k (by omega) (by omega), d4 k (by omega) (by omega)])
  · show VP (K + 1) n P'
    rw [hP']
    intro k hk
    by_cases e : k = i'
    · subst e
      simp only [y_us]
      exact ⟨x1, x2, by omega, by omega, x5, x6, by omega⟩
    · simp only [y_un e]
      obtain ⟨y1, y2, y3, y4, y5⟩ := vP k hk
      exact ⟨y1, y2, by omega, by omega, y5⟩
  · have q : (D'.2.2.2.1 k).toInt ≤ (vp_updL P.2.2.2.2.1 i' (P.2.2.2.2.1 i' + S) (D'.2.1 k).toNatClampNeg).toInt + K * 100000000 := d7 k hk
    show (D'.2.2.2.1 k).toInt ≤ (P'.2.2.2.2.1 (D'.2.1 k).toNatClampNeg).toInt + (K + 1) * 100000000
    rw [hP']
    show (D'.2.2.2.1 k).toInt ≤ (vp_updL P.2.2.2.2.1 i' (P.2.2.2.2.1 i' + S) (D'.2.1 k).toNatClampNeg).toInt + (K + 1) * 100000000
    omega
theorem s_23 {K : Int} (hK0 : 0 ≤ K) (hK : K ≤ 17900) {A : Nat → sAcc} {P : sPar} {C : sCla} {D : sDeb} {J : sJou} {r t : xF32} {d g : Int32} {T0 M0 M1 M2 M3 M4 F5 F6 F7 F9 F10 : Int32} {T1 F8 : xF32} {F1 F2 F4 : xF64} (h : RR (K) A (P, C, D, J, r, t, d, g) T0 T1 M0 M1 M2 M3 M4 F1 F2 F4 F5 F6 F7 F8 F9 F10) {fu : Nat} (hfu : 70000 < fu) (a1 a2 : Int32) (F0 : Int32) (F3 : xF64) (o : xF64) : ∃ A' D' J' M1' M2' M3' F0' F1' F3' F4' F5' F7' o', f_C_23 fu a1 a2 A P C D J r t d g M1 M2 M3 F0 F1 F3 F4 F5 F7 o = some (A', D', J', M1', M2', M3', F0', F1', F3', F4', F5', F7', o') ∧ RR (K + 1) A' (P, C, D', J', r, t, d, g) T0 T1 M0 M1' M2' M3' M4 F1' F2 F4' F5' F6 F7' F8 F9 F10 := by
  obtain ⟨n, c, m, j, dn, gn, hP, vP, hC, vC, hD, v1, v2, v3, hJ, h0⟩ := h.1.get
  have hn := hP.1
  have hc := hC.1
  have hm := hD.1
  have o1 : ¬ (1 : Int32) = 0 := by decide
  obtain ⟨t', e1, e2⟩ := k_rem (fu := fu) (by omega) F1 F3
  rcases p_both hP a1 a2 with ⟨b1, b2⟩ | ⟨b1, b2, b3, -⟩
  · have c1 : f_X0_faultOfOffset fu a1 a2 P D = some 7 := by rw [f_X0_faultOfOffset, b1, xb1_s, if_pos rfl]
    rcases b2 with b2 | ⟨b2, b3⟩
    · skip
      have hx : f_X7_offset fu a1 a2 A P C D J r t d g M1 M2 M3 = some (1, 0, A, D, J, M1, M2, M3) := by
        rw [f_X7_offset, c1, xb1_s, rf7, xb2_s]
        rfl
      have hy : f_X8_offset fu a1 a2 F0 F1 F3 F4 F5 F7 = some (0, 1, F1, t', F4, F5, F7) := by rw [f_X8_offset, e1, xb1_s, b2, xb1_s, if_pos rfl, f_X8_failsLong, xb2_s]
      exact ⟨A, D, J, M1, M2, M3, 1, F1, t', F4, F5, F7, o, z_23 (k := 1) (by rw [f_L_offset, hx, xb8_s]; rfl) hy rfl (fun q => absurd q (by decide)), h.mono (by omega)⟩
    · skip
      have hx : f_X7_offset fu a1 a2 A P C D J r t d g M1 M2 M3 = some (1, 0, A, D, J, M1, M2, M3) := by
        rw [f_X7_offset, c1, xb1_s, rf7, xb2_s]
        rfl
      have hy : f_X8_offset fu a1 a2 F0 F1 F3 F4 F5 F7 = some (0, 1, F1, t', F4, F5, F7) := by rw [f_X8_offset, e1, xb1_s, b2, xb1_s, if_neg o1, b3, xb1_s, if_pos rfl, f_X8_failsLong, xb2_s]
      exact ⟨A, D, J, M1, M2, M3, 1, F1, t', F4, F5, F7, o, z_23 (k := 1) (by rw [f_L_offset, hx, xb8_s]; rfl) hy rfl (fun q => absurd q (by decide)), h.mono (by omega)⟩
  by_cases ce : a1 = a2
  · have c1 : f_X0_faultOfOffset fu a1 a2 P D = some 8 := by rw [f_X0_faultOfOffset, b1, xb1_s, if_neg o1, if_pos ce]
    have hx : f_X7_offset fu a1 a2 A P C D J r t d g M1 M2 M3 = some (2, 0, A, D, J, M1, M2, M3) := by
      rw [f_X7_offset, c1, xb1_s, rf8, xb2_s]
      rfl
    have hy : f_X8_offset fu a1 a2 F0 F1 F3 F4 F5 F7 = some (0, 2, F1, t', F4, F5, F7) := by rw [f_X8_offset, e1, xb1_s, b2, xb1_s, if_neg o1, b3, xb1_s, if_neg o1, if_pos ce, f_X8_failsLong, xb2_s]
    exact ⟨A, D, J, M1, M2, M3, 2, F1, t', F4, F5, F7, o, z_23 (k := 2) (by rw [f_L_offset, hx, xb8_s]; rfl) hy rfl (fun q => absurd q (by decide)), h.mono (by omega)⟩
  have hpr := y_prb hK0 (by omega) hn vP v1 v3
  obtain ⟨x, x1, x2, x3⟩ := d_owedP hD (by omega) v2 hpr (fu := fu) (by omega) a1 a2
  obtain ⟨y, y1, y2, y3⟩ := d_owedP hD (by omega) v2 hpr (fu := fu) (by omega) a2 a1
  obtain ⟨t1, t2, t3⟩ := y_minT x y
  obtain ⟨w, hw⟩ : ∃ w, w = xminL x y := ⟨_, rfl⟩
  rw [← hw] at t1 t2 t3
  have hl : f_X8_least x y = some w := by rw [y_least, ← hw]
  by_cases cw : w.toInt = 0
  · have cw0 : w = 0 := (y_eq64 _ _).mpr cw
    have c1 : f_X0_faultOfOffset fu a1 a2 P D = some 5 := by
      rw [f_X0_faultOfOffset, b1, xb1_s, if_neg o1, if_neg ce, x1, xb1_s]
      by_cases cx : x ≤ 0
      · rw [if_pos cx]
      · have cy : y ≤ 0 := by
          rw [y_le64, y_z] at cx
          rw [y_le64, y_z]
          omega
        rw [if_neg cx, y1, xb1_s, if_pos cy]
    have hx : f_X7_offset fu a1 a2 A P C D J r t d g M1 M2 M3 = some (4, 0, A, D, J, M1, M2, 5) := by
      rw [f_X7_offset, c1, xb1_s, rfK (by decide) (by decide), xb2_s]
      rfl
    have hy : f_X8_offset fu a1 a2 F0 F1 F3 F4 F5 F7 = some (0, 3, F1, t', F4, F5, 5) := by
      rw [f_X8_offset, e1, xb1_s, b2, xb1_s, if_neg o1, b3, xb1_s, if_neg o1, if_neg ce, x2, xb1_s, y2, xb1_s, hl, xb1_s, if_pos cw0, f_X8_refuses, xb2_s, f_X8_failsLong, xb2_s]
    exact ⟨A, D, J, M1, M2, 5, 3, F1, t', F4, F5, 5, o, z_23 (k := 3) (by rw [f_L_offset, hx, xb8_s]; rfl) hy rfl (fun q => absurd q (by decide)), h.why (by decide) (by decide)⟩
  have cw0 : ¬ w = 0 := fun q => cw (by rw [q]; rfl)
  have cx : ¬ x ≤ 0 := by rw [y_le64, y_z]; omega
  have cy : ¬ y ≤ 0 := by rw [y_le64, y_z]; omega
  have c1 : f_X0_faultOfOffset fu a1 a2 P D = some 0 := by
    rw [f_X0_faultOfOffset, b1, xb1_s, if_neg o1, if_neg ce, x1, xb1_s, if_neg cx, y1, xb1_s, if_neg cy]
  obtain ⟨A', M1', M2', F4', F5', r1, r2, r3, r4⟩ := h.rem (fu := fu) (by omega) e2
  obtain ⟨m1, D1, s1, d1, d2, d3, d4, d5, d6, d7, d8, d9, -, d11, -⟩ := d_pay1 hD v1 (by omega) v2 (β := fun x => (P.2.2.2.2.1 x.toNatClampNeg).toInt + K * 100000000) v3 hpr (fu := fu) (by omega) x1 (by omega) w (by omega) t1
  have y1' : f_X2_owedBy fu a2 a1 D1 = some y := by rw [d9 a2 a1 (fun q => ce q.2)]; exact y1
  obtain ⟨m2, D2, s2, f1, f2, f3, f4, f5, f6, f7, -⟩ := d_pay1 d3 d5 (by omega) d6 (β := fun x => (P.2.2.2.2.1 x.toNatClampNeg).toInt + K * 100000000) d7 d8 (fu := fu) (by omega) y1' (by omega) w (by omega) t2
  obtain ⟨j', J', s3, j1, j2, j3, j4⟩ := j_add (hJ.frame (t := s2) (fun k hk => by rw [f4 k (by omega) (by omega), d4 k (by omega) (by omega)])) (fu := fu) (by omega) 9 w
  have hfr : ∀ k, k ≠ 4 → ¬ (122 ≤ k ∧ k < 272) → k ≠ 5 → ¬ (272 ≤ k ∧ k < 304) → s3 k = F1 k := fun k k2 k3 k4 k5 => by rw [j4 k k4 k5, f4 k k2 k3, d4 k k2 k3]
  have hx : f_X7_offset fu a1 a2 A P C D J r t d g M1 M2 M3 = some (0, w, A', D2, J', M1', M2', M3) := by
    rw [f_X7_offset, c1, xb1_s, rf0, xb2_s, if_pos rfl, r1, xb3_s, f_X0_makeOffset, x1, xb1_s, y1, xb1_s, ← hw, d1, xb1_s, f1, xb1_s, j1, xb1_s, xb3_s]
  have hy : f_X8_offset fu a1 a2 F0 F1 F3 F4 F5 F7 = some (w, 0, s3, t', F4', F5', F7) := by
    rw [f_X8_offset, e1, xb1_s, b2, xb1_s, if_neg o1, b3, xb1_s, if_neg o1, if_neg ce, x2, xb1_s, y2, xb1_s, hl, xb1_s, if_neg cw0, d2, xb1_s, f2, xb1_s, j2, xb1_s, r2, xb2_s]
  exact ⟨A', D2, J', M1', M2', M3, 0, s3, t', F4', F5', F7, vp_updL o 0 w, z_23 (k := 0) (by rw [f_L_offset, hx, xb8_s, if_pos rfl, y_xk y_i01, y_c0]) hy rfl (fun _ => y_us _ _ _), h.step r3 r4 ⟨n, c, m2, j', dn, gn, hP.frame (fun k hk => hfr k (by omega) (by omega) (by omega) (by omega)), vP.mono (by omega), hC.frame (fun k hk => hfr k (by omega) (by omega) (by omega) (by omega)), vC, f3.frame (fun k hk => j4 k (by omega) (by omega)), f5, f6.mono (by omega), VD3.mono (K := K) f7 (by omega), j3, h0.frame (fun k hk => hfr k (by omega) (by omega) (by omega) (by omega))⟩⟩
theorem s_25 {K : Int} (hK0 : 0 ≤ K) (hK : K ≤ 17900) {A : Nat → sAcc} {P : sPar} {C : sCla} {D : sDeb} {J : sJou} {r t : xF32} {d g : Int32} {T0 M0 M1 M2 M3 M4 F5 F6 F7 F9 F10 : Int32} {T1 F8 : xF32} {F1 F2 F4 : xF64} (h : RR (K) A (P, C, D, J, r, t, d, g) T0 T1 M0 M1 M2 M3 M4 F1 F2 F4 F5 F6 F7 F8 F9 F10) {fu : Nat} (hfu : 70000 < fu) (G0 : Int32) (G1 : xF32) (G2 : xF32) (F0 : Int32) (F3 : xF64) (F12 : xF32) : ∃ A' D' J' G0' G1' G2' M1' M2' F0' F1' F3' F4' F5' F12', f_C_25 fu A P C D J r t d g G0 G1 G2 M1 M2 F0 F1 F3 F4 F5 F12 = some (A', D', J', G0', G1', G2', M1', M2', F0', F1', F3', F4', F5', F12') ∧ RR (K + 1) A' (P, C, D', J', r, t, d, g) T0 T1 M0 M1' M2' M3 M4 F1' F2 F4' F5' F6 F7 F8 F9 F10 := by
  obtain ⟨n, c, m, j, dn, gn, hP, vP, hC, vC, hD, v1, v2, v3, hJ, h0⟩ := h.1.get
  have hn := hP.1
  have hc := hC.1
  have hm := hD.1
  have o1 : ¬ (1 : Int32) = 0 := by decide
  obtain ⟨t', e1, e2⟩ := k_rem (fu := fu) (by omega) F1 F3
  have hpr := y_prb hK0 (by omega) hn vP v1 v3
  obtain ⟨g0, G1', G2', f1, f2⟩ := r_find (fu := fu) (by omega) hm hD.2.1 hn v1 G0 G1 G2
  obtain ⟨x3, ring', q1, q2⟩ := h_find hfu (d_HO hP hD v1 (by omega) v2 hpr (by omega)) F12
  obtain ⟨A', M1', M2', F4', F5', r1, r2, r3, r4⟩ := h.rem (fu := fu) (by omega) e2
  obtain ⟨acc, m', D', s1, g0', G1'', G2'', ring'', b1, b2, ⟨b3, b4, b5, b6, -⟩, b7⟩ := c_all (K := K) (by omega) (pn := n) (P := P) (β := fun x => (P.2.2.2.2.1 x.toNatClampNeg).toInt + K * 100000000) hfu (J := J) 0 t' F4 F5 30 m 0 fu fu D F1 0 g0 G1' G2' x3 ring' hm (by omega) (by omega) (by omega) hP ⟨hD, v1, v2, v3, hpr⟩ f2 q2
  obtain ⟨j', J', s3, j1, j2, j3, j4⟩ := j_add (hJ.frame (t := s1) (fun k hk => b7 k (by omega) (by omega))) (fu := fu) (by omega) 10 acc
  have hfr : ∀ k, k ≠ 4 → ¬ (122 ≤ k ∧ k < 272) → k ≠ 5 → ¬ (272 ≤ k ∧ k < 304) → s3 k = F1 k := fun k k2 k3 k4 k5 => by rw [j4 k k4 k5, b7 k k2 k3]
  have z0 : nI 0 = 0 := rfl
  rw [z0] at b1
  have hx : f_X7_clearRings fu A P C D J r t d g G0 G1 G2 M1 M2 = some (acc, A', D', J', g0', G1'', G2'', M1', M2') := by
    rw [f_X7_clearRings, r1, xb3_s, f_X0_clearAllRings, f1, xb3_s, b1, j1, xb1_s, xb6_s]
  have hy : f_X8_clearRings fu F0 F1 F3 F4 F5 F12 = some (acc, 0, s3, t', F4', F5', ring'') := by
    rw [f_X8_clearRings, e1, xb1_s, q1, xb2_s, b2, j2, xb1_s, r2, xb2_s]
  exact ⟨A', D', J', g0', G1'', G2'', M1', M2', 0, s3, t', F4', F5', ring'', z_25 hx hy, h.step r3 r4 ⟨n, c, m', j', dn, gn, hP.frame (fun k hk => hfr k (by omega) (by omega) (by omega) (by omega)), vP.mono (by omega), hC.frame (fun k hk => hfr k (by omega) (by omega) (by omega) (by omega)), vC, b3.frame (fun k hk => j4 k (by omega) (by omega)), b4, b5.mono (by omega), VD3.mono (K := K) b6 (by omega), j3, h0.frame (fun k hk => hfr k (by omega) (by omega) (by omega) (by omega))⟩⟩
