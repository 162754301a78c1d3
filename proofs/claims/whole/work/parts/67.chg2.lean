-- changing cases, the others
theorem y_half {x : Int32} (h : 1 ≤ x.toInt) : (x / 2).toInt = x.toInt / 2 := by
  have h1 := y_rng x
  have e : (2 : Int32).toInt = 2 := rfl
  have h2 : (x / 2).toInt = (x.toInt.tdiv (2 : Int32).toInt).bmod (2 ^ 32) := by
    first
      | exact Int32.toInt_div x 2
      | simp [Int32.toInt_div]
  rw [h2, e, Int.tdiv_eq_ediv_of_nonneg (by omega)]
  exact y_bm (by omega) (by omega)
theorem s_1 {K : Int} (hK0 : 0 ≤ K) (hK : K ≤ 17900) {A : Nat → sAcc} {P : sPar} {C : sCla} {D : sDeb} {J : sJou} {r t : xF32} {d g : Int32} {T0 M0 M1 M2 M3 M4 F5 F6 F7 F9 F10 : Int32} {T1 F8 : xF32} {F1 F2 F4 : xF64} (h : RR (K) A (P, C, D, J, r, t, d, g) T0 T1 M0 M1 M2 M3 M4 F1 F2 F4 F5 F6 F7 F8 F9 F10) {fu : Nat} (hfu : 70000 < fu) (a1 a2 : Int32) (F0 : Int32) (F3 : xF64) (o : xF64) : ∃ A' P' M1' M2' F0' F1' F3' F4' F5' o', f_C_1 fu a1 a2 A P C D J r t d g M1 M2 F0 F1 F3 F4 F5 o = some (A', P', M1', M2', F0', F1', F3', F4', F5', o') ∧ RR (K + 1) A' (P', C, D, J, r, t, d, g) T0 T1 M0 M1' M2' M3 M4 F1' F2 F4' F5' F6 F7 F8 F9 F10 := by
  obtain ⟨n, c, m, j, dn, gn, hP, vP, hC, vC, hD, v1, v2, v3, hJ, h0⟩ := h.1.get
  have hn := hP.1
  have hc := hC.1
  have hm := hD.1
  have o1 : ¬ (1 : Int32) = 0 := by decide
  obtain ⟨t', e1, e2⟩ := k_rem (fu := fu) (by omega) F1 F3
  obtain ⟨v, w1, w2, w3, w4⟩ := y_in3 a1 0 1
  have hs : f_X7_isSide a1 = some v := by rw [f_X7_isSide, w2, xb1_s, w3, xk_t]
  rcases w4 with ⟨rfl, -⟩ | ⟨rfl, w4, w5⟩
  · have hx : f_X7_addParty a1 a2 A P C D J r t d g M1 M2 = some (2, 0, A, P, M1, M2) := by rw [f_X7_addParty, hs, xb1_s, if_pos rfl]
    have hy : f_X8_addParty fu a1 a2 F0 F1 F3 F4 F5 = some (0, 1, F1, t', F4, F5) := by rw [f_X8_addParty, e1, xb1_s, w1, xb1_s, if_pos rfl, f_X8_fails, xb2_s]
    exact ⟨A, P, M1, M2, 1, F1, t', F4, F5, o, z_1 (k := 1) (by rw [f_L_addParty, hx, xb6_s]; rfl) hy rfl (fun q => absurd q (by decide)), h.mono (by omega)⟩
  obtain ⟨v2', u1, u2, u3, u4⟩ := y_in3 a2 1 9
  rcases u4 with ⟨rfl, -⟩ | ⟨rfl, u4, u5⟩
  · have hx : f_X7_addParty a1 a2 A P C D J r t d g M1 M2 = some (2, 0, A, P, M1, M2) := by rw [f_X7_addParty, hs, xb1_s, if_neg o1, u2, xb1_s, if_pos rfl]
    have hy : f_X8_addParty fu a1 a2 F0 F1 F3 F4 F5 = some (0, 1, F1, t', F4, F5) := by rw [f_X8_addParty, e1, xb1_s, w1, xb1_s, if_neg o1, u1, xb1_s, if_pos rfl, f_X8_fails, xb2_s]
    exact ⟨A, P, M1, M2, 1, F1, t', F4, F5, o, z_1 (k := 1) (by rw [f_L_addParty, hx, xb6_s]; rfl) hy rfl (fun q => absurd q (by decide)), h.mono (by omega)⟩
  by_cases c6 : n = 6
  · have p6 : ¬ P.1 < 6 := by rw [hP.2.1, c6]; decide
    have q6 : nI n = 6 := by rw [c6]; rfl
    have hx : f_X7_addParty a1 a2 A P C D J r t d g M1 M2 = some (3, 0, A, P, M1, M2) := by rw [f_X7_addParty, hs, xb1_s, if_neg o1, u2, xb1_s, if_neg o1, if_neg p6]
    have hy : f_X8_addParty fu a1 a2 F0 F1 F3 F4 F5 = some (0, 2, F1, t', F4, F5) := by rw [f_X8_addParty, e1, xb1_s, w1, xb1_s, if_neg o1, u1, xb1_s, if_neg o1, p_parties hP, xb1_s, if_pos q6, f_X8_fails, xb2_s]
    exact ⟨A, P, M1, M2, 2, F1, t', F4, F5, o, z_1 (k := 2) (by rw [f_L_addParty, hx, xb6_s]; rfl) hy rfl (fun q => absurd q (by decide)), h.mono (by omega)⟩
  have n6 : n < 6 := by omega
  have p6 : P.1 < 6 := by rw [hP.2.1]; exact nI_lt (a := n) (b := 6) n6 (by omega)
  have q6' : ¬ nI n = 6 := y_neL (k := 6) c6 (by omega) (by omega)
  obtain ⟨P', b1, b2, b3, b4⟩ := p_add hP n6 a1 a2
  obtain ⟨A', M1', M2', F4', F5', r1, r2, r3, r4⟩ := h.rem (fu := fu) (by omega) e2
  have ws : a1 = 0 ∨ a1 = 1 := by
    have w4' : 0 ≤ a1.toInt := w4
    have w5' : a1.toInt ≤ 1 := w5
    by_cases cz : a1.toInt = 0
    · exact .inl ((y_eq32 _ _).mpr cz)
    · exact .inr ((y_eq32 _ _).mpr (show a1.toInt = 1 by omega))
  obtain ⟨s', hs'⟩ : ∃ s' : xF64, s' = vp_updL (vp_updL (vp_updL F1 (14 + n) a1.toInt64) (20 + n) a2.toInt64) 2 (lN (n + 1)) := ⟨_, rfl⟩
  rw [← hs'] at b2
  have hfr : ∀ k, k ≠ 2 → ¬ (14 ≤ k ∧ k < 50) → s' k = F1 k := fun k k1 k2 => by rw [hs', y_un k1, y_un (by omega), y_un (by omega)]
  have hx : f_X7_addParty a1 a2 A P C D J r t d g M1 M2 = some (0, nI n, A', P', M1', M2') := by
    rw [f_X7_addParty, hs, xb1_s, if_neg o1, u2, xb1_s, if_neg o1, if_pos p6, r1, xb3_s, b1, xb2_s]
  have hy : f_X8_addParty fu a1 a2 F0 F1 F3 F4 F5 = some (nI n, 0, s', t', F4', F5') := by
    have ea : 14 + nI n = nI (14 + n) := nI_add 14 n
    have eb : 20 + nI n = nI (20 + n) := nI_add 20 n
    have e2' : (2 : Int32).toNatClampNeg = 2 := rfl
    have i2 : xin 2 304 = true := by decide
    rw [f_X8_addParty, e1, xb1_s, w1, xb1_s, if_neg o1, u1, xb1_s, if_neg o1, p_parties hP, xb1_s, if_neg q6', xb1_s, ea, eb, y_xk (y_in (by omega) (by omega)), y_xk (y_in (by omega) (by omega)), y_xk i2, y_xk i2, r2, xb2_s, y_cl (by omega), y_cl (by omega), e2', y_un (by omega), y_un (by omega), hP.2.2.1, lN_1, ← hs']
  refine ⟨A', P', M1', M2', 0, s', t', F4', F5', vp_updL o 0 (nI n).toInt64, z_1 (k := 0) (by rw [f_L_addParty, hx, xb6_s, if_pos rfl, y_xk y_i01, y_c0]) hy rfl (fun _ => y_us _ _ _), h.step r3 r4 ⟨n + 1, c, m, j, dn, gn, b2, (b3 K hK0 vP ws u4 u5).mono (by omega), hC.frame (fun k hk => hfr k (by omega) (by omega)), fun k hk => ?_, hD.frame (fun k hk => hfr k (by omega) (by omega)), ⟨fun k hk => ?_, v1.2⟩, v2.mono (by omega), fun k hk => ?_, hJ.frame (fun k hk => hfr k (by omega) (by omega)), h0.frame (fun k hk => hfr k (by omega) (by omega))⟩⟩
  · obtain ⟨⟨x, y, h1, h2, h3⟩, h4⟩ := vC k hk
    exact ⟨⟨x, y, by omega, by omega, h3⟩, h4⟩
  · obtain ⟨x, y, h1, h2, h3⟩ := v1.1 k hk
    exact ⟨x, y, by omega, by omega, h3⟩
  · obtain ⟨x, y, h1, h2, h3, h4, h5⟩ := v1.1 k hk
    have q := v3 k hk
    show (D.2.2.2.1 k).toInt ≤ (P'.2.2.2.2.1 (D.2.1 k).toNatClampNeg).toInt + (K + 1) * 100000000
    rw [h4, y_cl (by omega)] at q ⊢
    rw [(b4 x h1).2]
    omega
theorem y_rate (a1 a2 : Int32) : ∃ fc, f_X7_faultOfRate a1 4 a2 = some fc ∧ ((fc = 7 ∧ f_X8_in a1 0 3 = some 0) ∨ (fc = 8 ∧ f_X8_in a1 0 3 = some 1 ∧ f_X8_in a2 0 2000 = some 0) ∨ (fc = 0 ∧ f_X8_in a1 0 3 = some 1 ∧ f_X8_in a2 0 2000 = some 1 ∧ 0 ≤ a2.toInt ∧ a2.toInt ≤ 2000 ∧ ∃ i, i < 4 ∧ a1 = nI i)) := by
  have o1 : ¬ (1 : Int32) = 0 := by decide
  have e3 : (4 : Int32) - 1 = 3 := by decide
  obtain ⟨v, w1, w2, w3, w4⟩ := y_in3 a1 0 3
  obtain ⟨u, x1, x2, x3, x4⟩ := y_in3 a2 0 2000
  rw [f_X7_faultOfRate, e3, w2, xb1_s]
  rcases w4 with ⟨rfl, -⟩ | ⟨rfl, w4, w5⟩
  · exact ⟨7, if_pos rfl, .inl ⟨rfl, w1⟩⟩
  rw [if_neg o1, x2, xb1_s]
  rcases x4 with ⟨rfl, -⟩ | ⟨rfl, x4, x5⟩
  · exact ⟨8, if_pos rfl, .inr (.inl ⟨rfl, w1, x1⟩)⟩
  · obtain ⟨i, -, hi, rfl⟩ := y_rg (lo := 0) (hi := 3) w4 w5 (by omega)
    exact ⟨0, if_neg o1, .inr (.inr ⟨rfl, w1, x1, x4, x5, i, by omega, rfl⟩)⟩
theorem s_2 {K : Int} (hK0 : 0 ≤ K) (hK : K ≤ 17900) {A : Nat → sAcc} {P : sPar} {C : sCla} {D : sDeb} {J : sJou} {r t : xF32} {d g : Int32} {T0 M0 M1 M2 M3 M4 F5 F6 F7 F9 F10 : Int32} {T1 F8 : xF32} {F1 F2 F4 : xF64} (h : RR (K) A (P, C, D, J, r, t, d, g) T0 T1 M0 M1 M2 M3 M4 F1 F2 F4 F5 F6 F7 F8 F9 F10) {fu : Nat} (hfu : 70000 < fu) (a1 a2 : Int32) (F0 : Int32) (F3 : xF64) (o : xF64) : ∃ A' r' M1' M2' M3' F0' F1' F3' F4' F5' o', f_C_2 fu a1 a2 A P C D J r t d g M1 M2 M3 F0 F1 F3 F4 F5 o = some (A', r', M1', M2', M3', F0', F1', F3', F4', F5', o') ∧ RR (K + 1) A' (P, C, D, J, r', t, d, g) T0 T1 M0 M1' M2' M3' M4 F1' F2 F4' F5' F6 F7 F8 F9 F10 := by
  obtain ⟨n, c, m, j, dn, gn, hP, vP, hC, vC, hD, v1, v2, v3, hJ, h0⟩ := h.1.get
  have hn := hP.1
  have hc := hC.1
  have hm := hD.1
  have o1 : ¬ (1 : Int32) = 0 := by decide
  obtain ⟨t', e1, e2⟩ := k_rem (fu := fu) (by omega) F1 F3
  obtain ⟨fc, c1, c2⟩ := y_rate a1 a2
  rcases c2 with ⟨rfl, c2⟩ | ⟨rfl, c2, c3⟩ | ⟨rfl, c2, c3, c4, c5, i, hi, rfl⟩
  · skip
    have hx : f_X7_setRate a1 a2 A P C D J r t d g M1 M2 M3 = some (1, 0, A, r, M1, M2, M3) := by
      rw [f_X7_setRate, c1, xb1_s, rf7, xb2_s]
      rfl
    have hy : f_X8_setRate fu a1 a2 F0 F1 F3 F4 F5 = some (0, 1, F1, t', F4, F5) := by rw [f_X8_setRate, e1, xb1_s, c2, xb1_s, if_pos rfl, f_X8_fails, xb2_s]
    exact ⟨A, r, M1, M2, M3, 1, F1, t', F4, F5, o, z_2 (k := 1) (by rw [f_L_setRate, hx, xb7_s]; rfl) hy rfl (fun q => absurd q (by decide)), h.mono (by omega)⟩
  · skip
    have hx : f_X7_setRate a1 a2 A P C D J r t d g M1 M2 M3 = some (2, 0, A, r, M1, M2, M3) := by
      rw [f_X7_setRate, c1, xb1_s, rf8, xb2_s]
      rfl
    have hy : f_X8_setRate fu a1 a2 F0 F1 F3 F4 F5 = some (0, 2, F1, t', F4, F5) := by rw [f_X8_setRate, e1, xb1_s, c2, xb1_s, if_neg o1, c3, xb1_s, if_pos rfl, f_X8_fails, xb2_s]
    exact ⟨A, r, M1, M2, M3, 2, F1, t', F4, F5, o, z_2 (k := 2) (by rw [f_L_setRate, hx, xb7_s]; rfl) hy rfl (fun q => absurd q (by decide)), h.mono (by omega)⟩
  · obtain ⟨g1, g2, rfl, rfl, g5, g6, g7⟩ := h0
    obtain ⟨A', M1', M2', F4', F5', r1, r2, r3, r4⟩ := h.rem (fu := fu) (by omega) e2
    have x4 : xin (nI i) 4 = true := y_in (by omega) (by omega)
    have y4 : (nI i).toNatClampNeg = i := y_cl (by omega)
    have hx : f_X7_setRate (nI i) a2 A P C D J r t (nI dn) (nI gn) M1 M2 M3 = some (0, r i, A', upd r i a2, M1', M2', M3) := by
      rw [f_X7_setRate, c1, xb1_s, rf0, xb2_s, if_pos rfl, r1, xb3_s, y_xk x4, y_xk x4, y4]
    have ea : 6 + nI i = nI (6 + i) := nI_add 6 i
    have hy : f_X8_setRate fu (nI i) a2 F0 F1 F3 F4 F5 = some (r i, 0, vp_updL F1 (6 + i) a2.toInt64, t', F4', F5') := by
      rw [f_X8_setRate, e1, xb1_s, c2, xb1_s, if_neg o1, c3, xb1_s, if_neg o1, ea, f_X8_sets, y_xk (y_in (by omega) (by omega)), r2, xb2_s, y_cl (by omega), (g7 i hi).1, y_ti, y_xk (y_in (by omega) (by omega)), xb4_s]
    have hfr : ∀ k, k ≠ 6 + i → vp_updL F1 (6 + i) a2.toInt64 k = F1 k := fun k k1 => y_un k1
    refine ⟨A', (upd r i a2), M1', M2', M3, 0, _, t', F4', F5', vp_updL o 0 (r i).toInt64, z_2 (k := 0) (by rw [f_L_setRate, hx, xb7_s, if_pos rfl, y_xk y_i01, y_c0]) hy rfl (fun _ => y_us _ _ _), h.step r3 r4 ⟨n, c, m, j, dn, gn, hP.frame (fun k hk => hfr k (by omega)), vP.mono (by omega), hC.frame (fun k hk => hfr k (by omega)), vC, hD.frame (fun k hk => hfr k (by omega)), v1, v2.mono (by omega), v3.mono (by omega), hJ.frame (fun k hk => hfr k (by omega)), ⟨g1, g2, rfl, rfl, by rw [hfr 0 (by omega)]; exact g5, by rw [hfr 1 (by omega)]; exact g6, fun k hk => ?_⟩⟩⟩
    obtain ⟨t1, t2, t3, t4, t5, t6⟩ := g7 k hk
    show vp_updL F1 (6 + i) a2.toInt64 (6 + k) = ((upd r i a2) k).toInt64 ∧ vp_updL F1 (6 + i) a2.toInt64 (10 + k) = (t k).toInt64 ∧ 0 ≤ ((upd r i a2) k).toInt ∧ ((upd r i a2) k).toInt ≤ 2000 ∧ 0 ≤ (t k).toInt ∧ (t k).toInt ≤ 2000
    by_cases e : k = i
    · subst e
      rw [pk_us]
      exact ⟨y_us _ _ _, by rw [hfr _ (by omega)]; exact t2, c4, c5, t5, t6⟩
    · rw [pk_un e, hfr _ (by omega), hfr _ (by omega)]
      exact ⟨t1, t2, t3, t4, t5, t6⟩
theorem s_3 {K : Int} (hK0 : 0 ≤ K) (hK : K ≤ 17900) {A : Nat → sAcc} {P : sPar} {C : sCla} {D : sDeb} {J : sJou} {r t : xF32} {d g : Int32} {T0 M0 M1 M2 M3 M4 F5 F6 F7 F9 F10 : Int32} {T1 F8 : xF32} {F1 F2 F4 : xF64} (h : RR (K) A (P, C, D, J, r, t, d, g) T0 T1 M0 M1 M2 M3 M4 F1 F2 F4 F5 F6 F7 F8 F9 F10) {fu : Nat} (hfu : 70000 < fu) (a1 a2 : Int32) (F0 : Int32) (F3 : xF64) (o : xF64) : ∃ A' t' M1' M2' M3' F0' F1' F3' F4' F5' o', f_C_3 fu a1 a2 A P C D J r t d g M1 M2 M3 F0 F1 F3 F4 F5 o = some (A', t', M1', M2', M3', F0', F1', F3', F4', F5', o') ∧ RR (K + 1) A' (P, C, D, J, r, t', d, g) T0 T1 M0 M1' M2' M3' M4 F1' F2 F4' F5' F6 F7 F8 F9 F10 := by
  obtain ⟨n, c, m, j, dn, gn, hP, vP, hC, vC, hD, v1, v2, v3, hJ, h0⟩ := h.1.get
  have hn := hP.1
  have hc := hC.1
  have hm := hD.1
  have o1 : ¬ (1 : Int32) = 0 := by decide
  obtain ⟨t', e1, e2⟩ := k_rem (fu := fu) (by omega) F1 F3
  obtain ⟨fc, c1, c2⟩ := y_rate a1 a2
  rcases c2 with ⟨rfl, c2⟩ | ⟨rfl, c2, c3⟩ | ⟨rfl, c2, c3, c4, c5, i, hi, rfl⟩
  · skip
    have hx : f_X7_setTier a1 a2 A P C D J r t d g M1 M2 M3 = some (1, 0, A, t, M1, M2, M3) := by
      rw [f_X7_setTier, c1, xb1_s, rf7, xb2_s]
      rfl
    have hy : f_X8_setTier fu a1 a2 F0 F1 F3 F4 F5 = some (0, 1, F1, t', F4, F5) := by rw [f_X8_setTier, e1, xb1_s, c2, xb1_s, if_pos rfl, f_X8_fails, xb2_s]
    exact ⟨A, t, M1, M2, M3, 1, F1, t', F4, F5, o, z_3 (k := 1) (by rw [f_L_setTier, hx, xb7_s]; rfl) hy rfl (fun q => absurd q (by decide)), h.mono (by omega)⟩
  · skip
    have hx : f_X7_setTier a1 a2 A P C D J r t d g M1 M2 M3 = some (2, 0, A, t, M1, M2, M3) := by
      rw [f_X7_setTier, c1, xb1_s, rf8, xb2_s]
      rfl
    have hy : f_X8_setTier fu a1 a2 F0 F1 F3 F4 F5 = some (0, 2, F1, t', F4, F5) := by rw [f_X8_setTier, e1, xb1_s, c2, xb1_s, if_neg o1, c3, xb1_s, if_pos rfl, f_X8_fails, xb2_s]
    exact ⟨A, t, M1, M2, M3, 2, F1, t', F4, F5, o, z_3 (k := 2) (by rw [f_L_setTier, hx, xb7_s]; rfl) hy rfl (fun q => absurd q (by decide)), h.mono (by omega)⟩
  · obtain ⟨g1, g2, rfl, rfl, g5, g6, g7⟩ := h0
    obtain ⟨A', M1', M2', F4', F5', r1, r2, r3, r4⟩ := h.rem (fu := fu) (by omega) e2
    have x4 : xin (nI i) 4 = true := y_in (by omega) (by omega)
    have y4 : (nI i).toNatClampNeg = i := y_cl (by omega)
    have hx : f_X7_setTier (nI i) a2 A P C D J r t (nI dn) (nI gn) M1 M2 M3 = some (0, t i, A', upd t i a2, M1', M2', M3) := by
      rw [f_X7_setTier, c1, xb1_s, rf0, xb2_s, if_pos rfl, r1, xb3_s, y_xk x4, y_xk x4, y4]
    have ea : 10 + nI i = nI (10 + i) := nI_add 10 i
    have hy : f_X8_setTier fu (nI i) a2 F0 F1 F3 F4 F5 = some (t i, 0, vp_updL F1 (10 + i) a2.toInt64, t', F4', F5') := by
      rw [f_X8_setTier, e1, xb1_s, c2, xb1_s, if_neg o1, c3, xb1_s, if_neg o1, ea, f_X8_sets, y_xk (y_in (by omega) (by omega)), r2, xb2_s, y_cl (by omega), (g7 i hi).2.1, y_ti, y_xk (y_in (by omega) (by omega)), xb4_s]
    have hfr : ∀ k, k ≠ 10 + i → vp_updL F1 (10 + i) a2.toInt64 k = F1 k := fun k k1 => y_un k1
    refine ⟨A', (upd t i a2), M1', M2', M3, 0, _, t', F4', F5', vp_updL o 0 (t i).toInt64, z_3 (k := 0) (by rw [f_L_setTier, hx, xb7_s, if_pos rfl, y_xk y_i01, y_c0]) hy rfl (fun _ => y_us _ _ _), h.step r3 r4 ⟨n, c, m, j, dn, gn, hP.frame (fun k hk => hfr k (by omega)), vP.mono (by omega), hC.frame (fun k hk => hfr k (by omega)), vC, hD.frame (fun k hk => hfr k (by omega)), v1, v2.mono (by omega), v3.mono (by omega), hJ.frame (fun k hk => hfr k (by omega)), ⟨g1, g2, rfl, rfl, by rw [hfr 0 (by omega)]; exact g5, by rw [hfr 1 (by omega)]; exact g6, fun k hk => ?_⟩⟩⟩
    obtain ⟨t1, t2, t3, t4, t5, t6⟩ := g7 k hk
    show vp_updL F1 (10 + i) a2.toInt64 (6 + k) = (r k).toInt64 ∧ vp_updL F1 (10 + i) a2.toInt64 (10 + k) = ((upd t i a2) k).toInt64 ∧ 0 ≤ (r k).toInt ∧ (r k).toInt ≤ 2000 ∧ 0 ≤ ((upd t i a2) k).toInt ∧ ((upd t i a2) k).toInt ≤ 2000
    by_cases e : k = i
    · subst e
      rw [pk_us]
      exact ⟨by rw [hfr _ (by omega)]; exact t1, y_us _ _ _, t3, t4, c4, c5⟩
    · rw [pk_un e, hfr _ (by omega), hfr _ (by omega)]
      exact ⟨t1, t2, t3, t4, t5, t6⟩
theorem s_15 {K : Int} (hK0 : 0 ≤ K) (hK : K ≤ 17900) {A : Nat → sAcc} {P : sPar} {C : sCla} {D : sDeb} {J : sJou} {r t : xF32} {d g : Int32} {T0 M0 M1 M2 M3 M4 F5 F6 F7 F9 F10 : Int32} {T1 F8 : xF32} {F1 F2 F4 : xF64} (h : RR (K) A (P, C, D, J, r, t, d, g) T0 T1 M0 M1 M2 M3 M4 F1 F2 F4 F5 F6 F7 F8 F9 F10) {fu : Nat} (hfu : 70000 < fu) (a1 : Int32) (F0 : Int32) (F3 : xF64) (o : xF64) : ∃ A' P' J' M1' M2' F0' F1' F3' F4' F5' o', f_C_15 fu a1 A P C D J r t d g M1 M2 F0 F1 F3 F4 F5 o = some (A', P', J', M1', M2', F0', F1', F3', F4', F5', o') ∧ RR (K + 1) A' (P', C, D, J', r, t, d, g) T0 T1 M0 M1' M2' M3 M4 F1' F2 F4' F5' F6 F7 F8 F9 F10 := by
  obtain ⟨n, c, m, j, dn, gn, hP, vP, hC, vC, hD, v1, v2, v3, hJ, h0⟩ := h.1.get
  have hn := hP.1
  have hc := hC.1
  have hm := hD.1
  have o1 : ¬ (1 : Int32) = 0 := by decide
  obtain ⟨t', e1, e2⟩ := k_rem (fu := fu) (by omega) F1 F3
  obtain ⟨v, w1, w2, w3⟩ := y_amount a1
  rcases w3 with rfl | ⟨rfl, w3, w4⟩
  · have hx : f_X7_call fu a1 A P C D J r t d g M1 M2 = some (2, 0, A, P, J, M1, M2) := by rw [f_X7_call, w2, xb1_s, if_pos rfl]
    have hy : f_X8_call fu a1 F0 F1 F3 F4 F5 = some (0, 1, F1, t', F4, F5) := by rw [f_X8_call, e1, xb1_s, w1, xb1_s, if_pos rfl, f_X8_failsLong, xb2_s]
    exact ⟨A, P, J, M1, M2, 1, F1, t', F4, F5, o, z_15 (k := 1) (by rw [f_L_call, hx, xb7_s]; rfl) hy rfl (fun q => absurd q (by decide)), h.mono (by omega)⟩
  obtain ⟨A', M1', M2', F4', F5', r1, r2, r3, r4⟩ := h.rem (fu := fu) (by omega) e2
  obtain ⟨acc, P', s1, b1, b2, b3, b4, b5, b6⟩ := t_call (J := J) hK0 (by omega) (fu := fu) (by omega) 0 t' F4 F5 w3 w4 (y_half w3) n 0 fu P F1 0 (by omega) (by omega) hP (vP.mono (by omega)) (fun k _ hk => (vP k hk).2.2.1.2)
  obtain ⟨j', J', s3, j1, j2, j3, j4⟩ := j_add (hJ.frame (fun k hk => b6 k (by omega))) (fu := fu) (by omega) 4 acc
  have hfr : ∀ k, ¬ (26 ≤ k ∧ k < 32) → k ≠ 5 → ¬ (272 ≤ k ∧ k < 304) → s3 k = F1 k := fun k k1 k2 k3 => by rw [j4 k k2 k3, b6 k k1]
  have z0 : nI 0 = 0 := rfl
  rw [z0] at b1 b2
  have hx : f_X7_call fu a1 A P C D J r t d g M1 M2 = some (0, acc, A', P', J', M1', M2') := by
    rw [f_X7_call, w2, xb1_s, if_neg o1, r1, xb3_s, f_X0_makeCall, b1, j1, xb1_s, xb3_s]
  have hy : f_X8_call fu a1 F0 F1 F3 F4 F5 = some (acc, 0, s3, t', F4', F5') := by
    rw [f_X8_call, e1, xb1_s, w1, xb1_s, if_neg o1, b2, j2, xb1_s, r2, xb2_s]
  refine ⟨A', P', J', M1', M2', 0, s3, t', F4', F5', vp_updL o 0 acc, z_15 (k := 0) (by rw [f_L_call, hx, xb7_s, if_pos rfl, y_xk y_i01, y_c0]) hy rfl (fun _ => y_us _ _ _), h.step r3 r4 ⟨n, c, m, j', dn, gn, b3.frame (fun k hk => j4 k (by omega) (by omega)), b4, hC.frame (fun k hk => hfr k (by omega) (by omega) (by omega)), vC, hD.frame (fun k hk => hfr k (by omega) (by omega) (by omega)), v1, v2.mono (by omega), fun k hk => ?_, j3, h0.frame (fun k hk => hfr k (by omega) (by omega) (by omega))⟩⟩
  have q := v3 k hk
  show (D.2.2.2.1 k).toInt ≤ (P'.2.2.2.2.1 (D.2.1 k).toNatClampNeg).toInt + (K + 1) * 100000000
  rw [b5]
  omega
theorem s_18 {K : Int} (hK0 : 0 ≤ K) (hK : K ≤ 17900) {A : Nat → sAcc} {P : sPar} {C : sCla} {D : sDeb} {J : sJou} {r t : xF32} {d g : Int32} {T0 M0 M1 M2 M3 M4 F5 F6 F7 F9 F10 : Int32} {T1 F8 : xF32} {F1 F2 F4 : xF64} (h : RR (K) A (P, C, D, J, r, t, d, g) T0 T1 M0 M1 M2 M3 M4 F1 F2 F4 F5 F6 F7 F8 F9 F10) {fu : Nat} (hfu : 70000 < fu) (F0 : Int32) (F3 : xF64) : ∃ A' P' J' M1' M2' F0' F1' F3' F4' F5', f_C_18 fu A P C D J r t d g M1 M2 F0 F1 F3 F4 F5 = some (A', P', J', M1', M2', F0', F1', F3', F4', F5') ∧ RR (K + 1) A' (P', C, D, J', r, t, d, g) T0 T1 M0 M1' M2' M3 M4 F1' F2 F4' F5' F6 F7 F8 F9 F10 := by
  obtain ⟨n, c, m, j, dn, gn, hP, vP, hC, vC, hD, v1, v2, v3, hJ, h0⟩ := h.1.get
  have hn := hP.1
  have hc := hC.1
  have hm := hD.1
  have o1 : ¬ (1 : Int32) = 0 := by decide
  obtain ⟨t', e1, e2⟩ := k_rem (fu := fu) (by omega) F1 F3
  obtain ⟨A', M1', M2', F4', F5', r1, r2, r3, r4⟩ := h.rem (fu := fu) (by omega) e2
  obtain ⟨acc, P', s1, b1, b2, b3, b4, b5, b6⟩ := t_take (J := J) (K := K) (by omega) vC (fu := fu) (by omega) 0 t' F4 F5 n 0 fu P F1 0 (by omega) (by omega) hP vP hC h0
  obtain ⟨j', J', s3, j1, j2, j3, j4⟩ := j_add (hJ.frame (fun k hk => b6 k (by omega))) (fu := fu) (by omega) 6 acc
  have hfr : ∀ k, ¬ (38 ≤ k ∧ k < 44) → k ≠ 5 → ¬ (272 ≤ k ∧ k < 304) → s3 k = F1 k := fun k k1 k2 k3 => by rw [j4 k k2 k3, b6 k k1]
  have z0 : nI 0 = 0 := rfl
  rw [z0] at b1 b2
  have hx : f_X7_takeFees fu A P C D J r t d g M1 M2 = some (acc, A', P', J', M1', M2') := by
    rw [f_X7_takeFees, r1, xb3_s, f_X0_takeAllFees, b1, j1, xb1_s, xb3_s]
  have hy : f_X8_takeFees fu F0 F1 F3 F4 F5 = some (acc, 0, s3, t', F4', F5') := by
    rw [f_X8_takeFees, e1, xb1_s, b2, j2, xb1_s, r2, xb2_s]
  refine ⟨A', P', J', M1', M2', 0, s3, t', F4', F5', z_18 hx hy, h.step r3 r4 ⟨n, c, m, j', dn, gn, b3.frame (fun k hk => j4 k (by omega) (by omega)), b4.mono (by omega), hC.frame (fun k hk => hfr k (by omega) (by omega) (by omega)), vC, hD.frame (fun k hk => hfr k (by omega) (by omega) (by omega)), v1, v2.mono (by omega), fun k hk => ?_, j3, h0.frame (fun k hk => hfr k (by omega) (by omega) (by omega))⟩⟩
  have q := v3 k hk
  show (D.2.2.2.1 k).toInt ≤ (P'.2.2.2.2.1 (D.2.1 k).toNatClampNeg).toInt + (K + 1) * 100000000
  rw [b5]
  omega
theorem s_19 {K : Int} (hK0 : 0 ≤ K) (hK : K ≤ 17900) {A : Nat → sAcc} {P : sPar} {C : sCla} {D : sDeb} {J : sJou} {r t : xF32} {d g : Int32} {T0 M0 M1 M2 M3 M4 F5 F6 F7 F9 F10 : Int32} {T1 F8 : xF32} {F1 F2 F4 : xF64} (h : RR (K) A (P, C, D, J, r, t, d, g) T0 T1 M0 M1 M2 M3 M4 F1 F2 F4 F5 F6 F7 F8 F9 F10) {fu : Nat} (hfu : 70000 < fu) (F0 : Int32) (F3 : xF64) (o : xF64) : ∃ A' P' J' M1' M2' M3' F0' F1' F3' F4' F5' F7' o', f_C_19 fu A P C D J r t d g M1 M2 M3 F0 F1 F3 F4 F5 F7 o = some (A', P', J', M1', M2', M3', F0', F1', F3', F4', F5', F7', o') ∧ RR (K + 1) A' (P', C, D, J', r, t, d, g) T0 T1 M0 M1' M2' M3' M4 F1' F2 F4' F5' F6 F7' F8 F9 F10 := by
  obtain ⟨n, c, m, j, dn, gn, hP, vP, hC, vC, hD, v1, v2, v3, hJ, h0⟩ := h.1.get
  have hn := hP.1
  have hc := hC.1
  have hm := hD.1
  have o1 : ¬ (1 : Int32) = 0 := by decide
  obtain ⟨t', e1, e2⟩ := k_rem (fu := fu) (by omega) F1 F3
  have hg3 : (3 ≤ g ↔ 3 ≤ gn) ∧ (3 ≤ F1 1 ↔ 3 ≤ gn) := by
    obtain ⟨g1, g2, g3, g4, g5, g6, g7⟩ := h0
    rw [g4, g6]
    exact ⟨nI_leI (a := 3) (b := gn) (by omega) (by omega), lN_le (a := 3) (b := gn) (by omega) (by omega)⟩
  have i1 : xin 1 304 = true := by decide
  have l1 : (1 : Int32).toNatClampNeg = 1 := rfl
  by_cases cg : 3 ≤ gn
  · obtain ⟨A', M1', M2', F4', F5', r1, r2, r3, r4⟩ := h.rem (fu := fu) (by omega) e2
    obtain ⟨acc, P', s1, b1, b2, b3, b4, b5, b6⟩ := t_give (J := J) (K := K) (by omega) vC (fu := fu) (by omega) 0 t' F4 F5 F7 n 0 fu P F1 0 (by omega) (by omega) hP vP hC h0
    obtain ⟨j', J', s3, j1, j2, j3, j4⟩ := j_add (hJ.frame (fun k hk => b6 k (by omega))) (fu := fu) (by omega) 7 acc
    have hfr : ∀ k, ¬ (44 ≤ k ∧ k < 50) → k ≠ 5 → ¬ (272 ≤ k ∧ k < 304) → s3 k = F1 k := fun k k1 k2 k3 => by rw [j4 k k2 k3, b6 k k1]
    have z0 : nI 0 = 0 := rfl
    rw [z0] at b1 b2
    have hx : f_X7_giveBack fu A P C D J r t d g M1 M2 M3 = some (0, acc, A', P', J', M1', M2', M3) := by
      rw [f_X7_giveBack, if_pos (hg3.1.mpr cg), rf0, xb2_s, if_pos rfl, r1, xb3_s, f_X0_returnAll, b1, j1, xb1_s, xb3_s]
    have hy : f_X8_giveBack fu F0 F1 F3 F4 F5 F7 = some (acc, 0, s3, t', F4', F5', F7) := by
      rw [f_X8_giveBack, e1, xb1_s, y_xk i1, l1, if_pos (hg3.2.mpr cg), b2, j2, xb1_s, r2, xb2_s]
    refine ⟨A', P', J', M1', M2', M3, 0, s3, t', F4', F5', F7, vp_updL o 0 acc, z_19 (k := 0) (by rw [f_L_giveBack, hx, xb8_s, if_pos rfl, y_xk y_i01, y_c0]) hy rfl (fun _ => y_us _ _ _), h.step r3 r4 ⟨n, c, m, j', dn, gn, b3.frame (fun k hk => j4 k (by omega) (by omega)), b4.mono (by omega), hC.frame (fun k hk => hfr k (by omega) (by omega) (by omega)), vC, hD.frame (fun k hk => hfr k (by omega) (by omega) (by omega)), v1, v2.mono (by omega), fun k hk => ?_, j3, h0.frame (fun k hk => hfr k (by omega) (by omega) (by omega))⟩⟩
    have q := v3 k hk
    show (D.2.2.2.1 k).toInt ≤ (P'.2.2.2.2.1 (D.2.1 k).toNatClampNeg).toInt + (K + 1) * 100000000
    rw [b5]
    omega
  · have hx : f_X7_giveBack fu A P C D J r t d g M1 M2 M3 = some (4, 0, A, P, J, M1, M2, 6) := by
      rw [f_X7_giveBack, if_neg (fun q => cg (hg3.1.mp q)), rfK (by decide) (by decide), xb2_s]
      rfl
    have hy : f_X8_giveBack fu F0 F1 F3 F4 F5 F7 = some (0, 1, F1, t', F4, F5, 6) := by
      rw [f_X8_giveBack, e1, xb1_s, y_xk i1, l1, if_neg (fun q => cg (hg3.2.mp q)), f_X8_refuses, xb2_s, f_X8_failsLong, xb2_s]
    exact ⟨A, P, J, M1, M2, 6, 1, F1, t', F4, F5, 6, o, z_19 (k := 1) (by rw [f_L_giveBack, hx, xb8_s]; rfl) hy rfl (fun q => absurd q (by decide)), h.why (by decide) (by decide)⟩
