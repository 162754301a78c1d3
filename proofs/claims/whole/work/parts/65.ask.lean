-- questions, on both sides
theorem y_neL {w k : Nat} (h : w ≠ k) (hw : w < 2 ^ 31) (hk : k < 2 ^ 31) : ¬ nI w = nI k := fun q => h ((nI_eq hw hk).mp q)
theorem y_rg {x : Int32} {lo hi : Nat} (h1 : (lo : Int) ≤ x.toInt) (h2 : x.toInt ≤ (hi : Int)) (hh : hi < 2 ^ 31) : ∃ w : Nat, lo ≤ w ∧ w ≤ hi ∧ x = nI w := ⟨x.toInt.toNat, by omega, by omega, by
  rw [y_eq32, nI_toInt (by omega)]
  omega⟩
theorem rf0 (M : Int32) : f_X7_refuse 0 M = some (0, M) := by rw [f_X7_refuse, if_pos rfl]
theorem rf7 (M : Int32) : f_X7_refuse 7 M = some (1, M) := by rw [f_X7_refuse, if_neg (by decide), if_pos rfl]
theorem rf8 (M : Int32) : f_X7_refuse 8 M = some (2, M) := by rw [f_X7_refuse, if_neg (by decide), if_neg (by decide), if_pos rfl]
theorem rf9 (M : Int32) : f_X7_refuse 9 M = some (3, M) := by rw [f_X7_refuse, if_neg (by decide), if_neg (by decide), if_neg (by decide), if_pos rfl]
theorem rfK {k : Int32} (h1 : 1 ≤ k.toInt) (h2 : k.toInt ≤ 6) (M : Int32) : f_X7_refuse k M = some (4, k) := by
  have n : ∀ z : Int32, (z.toInt < 1 ∨ 6 < z.toInt) → ¬ k = z := fun z hz q => by subst q; omega
  have c : ¬ (6 : Int32) < k := by
    rw [y_lt32]
    have : (6 : Int32).toInt = 6 := rfl
    omega
  rw [f_X7_refuse, if_neg (n 0 (by decide)), if_neg (n 7 (by decide)), if_neg (n 8 (by decide)), if_neg (n 9 (by decide)), f_X7_keepReason, if_neg c, xb1_s]
theorem y_c0 : (0 : Int32).toNatClampNeg = 0 := rfl
theorem y_i01 : xin 0 1 = true := by decide
theorem y_o : ¬ (1 : Int32) = 0 := by decide
theorem s_4 {K : Int} (hK0 : 0 ≤ K) (hK : K ≤ 17920) {P : sPar} {C : sCla} {D : sDeb} {J : sJou} {r t : xF32} {d g : Int32} {s : xF64} (h : RA K (P, C, D, J, r, t, d, g) s) {fu : Nat} (hfu : 70000 < fu) (a1 a2 M3 F0 : Int32) (o : xF64) : ∃ F0' o', f_C_4 fu a1 a2 P C D t M3 F0 s o = some (M3, F0', o') := by
  obtain ⟨n, c, m, j, dn, gn, hP, vP, hC, vC, hD, v1, v2, v3, hJ, h0⟩ := h.get
  have hn := hP.1
  have hc := hC.1
  have hm := hD.1
  obtain ⟨b, b1, b2, b3⟩ := p_has hP a1
  rcases b3 with rfl | ⟨rfl, i, hi, rfl⟩
  · have hx : f_X7_party fu a1 a2 P C D t M3 = some (1, 0, M3) := by rw [f_X7_party, b1, xb1_s, f_X7_faultOfQuestion, if_pos rfl, xb1_s, rf7, xb2_s]; rfl
    have hy : f_X8_party fu a1 a2 F0 s = some (0, 1) := by rw [f_X8_party, b2, xb1_s, if_pos rfl, f_X8_failsLong, xb2_s]
    exact ⟨1, o, z_4 (k := 1) (by rw [f_L_party, hx, xb3_s]; rfl) hy rfl (fun q => absurd q (by decide))⟩
  obtain ⟨q, w1, w2, w3, w4⟩ := y_in3 a2 0 10
  have hq : f_X7_faultOfQuestion 1 a2 10 = some (if q = 0 then 8 else 0) := by
    rw [f_X7_faultOfQuestion, if_neg y_o, w2, xb1_s, y_ite]
  rcases w4 with ⟨rfl, w4⟩ | ⟨rfl, w4, w5⟩
  · have w4' : ¬ (0 ≤ a2.toInt ∧ a2.toInt ≤ 10) := w4
    have ne : ∀ z : Int32, 0 ≤ z.toInt → z.toInt ≤ 10 → ¬ a2 = z := fun z h1 h2 q => by subst q; exact w4' ⟨h1, h2⟩
    obtain ⟨q5, u1, u2, u3, u4⟩ := y_in3 a2 0 5
    have h5 : q5 = 0 := by
      rcases u4 with ⟨u4, -⟩ | ⟨u4, u5, u6⟩
      · exact u4
      · have u5' : 0 ≤ a2.toInt := u5
        have u6' : a2.toInt ≤ 5 := u6
        exact absurd ⟨u5', by omega⟩ w4'
    subst h5
    have hx : f_X7_party fu (nI i) a2 P C D t M3 = some (2, 0, M3) := by rw [f_X7_party, b1, xb1_s, hq, if_pos rfl, xb1_s, rf8, xb2_s]; rfl
    have hy : f_X8_party fu (nI i) a2 F0 s = some (0, 2) := by rw [f_X8_party, b2, xb1_s, if_neg y_o, if_neg (ne 6 (by decide) (by decide)), if_neg (ne 7 (by decide) (by decide)), if_neg (ne 8 (by decide) (by decide)), if_neg (ne 9 (by decide) (by decide)), if_neg (ne 10 (by decide) (by decide)), u1, xb1_s, if_pos rfl, f_X8_failsLong, xb2_s]
    exact ⟨2, o, z_4 (k := 2) (by rw [f_L_party, hx, xb3_s]; rfl) hy rfl (fun q => absurd q (by decide))⟩
  obtain ⟨w, -, hw, rfl⟩ := y_rg (lo := 0) (hi := 10) w4 w5 (by omega)
  have key : ∃ v, f_X0_numberOfParty fu (nI i) (nI w) P C D t = some v ∧ f_X8_party fu (nI i) (nI w) F0 s = some (v, 0) := by
    by_cases c7 : w = 7
    · subst c7
      obtain ⟨S, k1, k2, -⟩ := f_share hP vP hC vC h0 (fu := fu) (by omega) hi
      have n6 : ¬ nI 7 = (6 : Int32) := by decide
      have n7 : nI 7 = (7 : Int32) := rfl
      exact ⟨S, by rw [f_X0_numberOfParty, if_pos n7, k1, xb1_s], by rw [f_X8_party, b2, xb1_s, if_neg y_o, if_neg n6, if_pos n7, k2, xb1_s]⟩
    by_cases c9 : w = 9
    · subst c9
      obtain ⟨S, k1, k2⟩ := d_by hD (fu := fu) (by omega) (nI i)
      have n6 : ¬ nI 9 = (6 : Int32) := by decide
      have n7 : ¬ nI 9 = (7 : Int32) := by decide
      have n8 : ¬ nI 9 = (8 : Int32) := by decide
      have n9 : nI 9 = (9 : Int32) := rfl
      exact ⟨S, by rw [f_X0_numberOfParty, if_neg n7, if_pos n9, k1, xb1_s], by rw [f_X8_party, b2, xb1_s, if_neg y_o, if_neg n6, if_neg n7, if_neg n8, if_pos n9, k2, xb1_s]⟩
    by_cases c10 : w = 10
    · subst c10
      obtain ⟨S, k1, k2⟩ := d_to hD (fu := fu) (by omega) (nI i)
      have n6 : ¬ nI 10 = (6 : Int32) := by decide
      have n7 : ¬ nI 10 = (7 : Int32) := by decide
      have n8 : ¬ nI 10 = (8 : Int32) := by decide
      have n9 : ¬ nI 10 = (9 : Int32) := by decide
      have n10 : nI 10 = (10 : Int32) := rfl
      exact ⟨S, by rw [f_X0_numberOfParty, if_neg n7, if_neg n9, if_pos n10, k1, xb1_s], by rw [f_X8_party, b2, xb1_s, if_neg y_o, if_neg n6, if_neg n7, if_neg n8, if_neg n9, if_pos n10, k2, xb1_s]⟩
    have n7 : ¬ nI w = (7 : Int32) := y_neL (k := 7) c7 (by omega) (by omega)
    have n9 : ¬ nI w = (9 : Int32) := y_neL (k := 9) c9 (by omega) (by omega)
    have n10 : ¬ nI w = (10 : Int32) := y_neL (k := 10) c10 (by omega) (by omega)
    have hnp : ∀ v, f_X4_numberOf (nI i) (nI w) P = some v → f_X0_numberOfParty fu (nI i) (nI w) P C D t = some v := fun v hv => by
      rw [f_X0_numberOfParty, if_neg n7, if_neg n9, if_neg n10, hv, xb1_s]
    by_cases c6 : w = 6
    · subst c6
      obtain ⟨v, k1, k2⟩ := p_row6 hP hi
      have n6 : nI 6 = (6 : Int32) := rfl
      exact ⟨v, hnp v k1, by rw [f_X8_party, b2, xb1_s, if_neg y_o, if_pos n6, k2, xb1_s]⟩
    have n6 : ¬ nI w = (6 : Int32) := y_neL (k := 6) c6 (by omega) (by omega)
    by_cases c8 : w = 8
    · subst c8
      obtain ⟨v, k1, k2⟩ := p_row8 hP (by omega) vP hi
      have n8 : nI 8 = (8 : Int32) := rfl
      exact ⟨v, hnp v k1, by rw [f_X8_party, b2, xb1_s, if_neg y_o, if_neg n6, if_neg n7, if_pos n8, k2, xb1_s]⟩
    have n8 : ¬ nI w = (8 : Int32) := y_neL (k := 8) c8 (by omega) (by omega)
    have k1 := p_row hP hi w (by omega)
    obtain ⟨q5, u1, u2, u3, u4⟩ := y_in3 (nI w) 0 5
    have h5 : q5 = 1 := by
      rcases u4 with ⟨-, u4⟩ | ⟨u4, -⟩
      · have e5 : (5 : Int32).toInt = 5 := rfl
        have e0 : (0 : Int32).toInt = 0 := rfl
        rw [nI_toInt (by omega), e5, e0] at u4
        omega
      · exact u4
    subst h5
    have ei : 14 + 6 * nI w + nI i = nI (14 + 6 * w + i) := by rw [q14, q6, pk_mul, nI_add, nI_add]
    exact ⟨_, hnp _ k1, by rw [f_X8_party, b2, xb1_s, if_neg y_o, if_neg n6, if_neg n7, if_neg n8, if_neg n9, if_neg n10, u1, xb1_s, if_neg y_o, ei, y_xk (y_in (by omega) (by omega)), y_cl (by omega)]⟩
  obtain ⟨v, k1, hy⟩ := key
  have hx : f_X7_party fu (nI i) (nI w) P C D t M3 = some (0, v, M3) := by rw [f_X7_party, b1, xb1_s, hq, if_neg y_o, xb1_s, rf0, xb2_s, if_pos rfl, k1, xb1_s]
  exact ⟨0, vp_updL o 0 v, z_4 (k := 0) (by rw [f_L_party, hx, xb3_s, if_pos rfl, y_xk y_i01, y_c0]) hy rfl (fun _ => y_us _ _ _)⟩
theorem s_9 {K : Int} (hK0 : 0 ≤ K) (hK : K ≤ 17920) {P : sPar} {C : sCla} {D : sDeb} {J : sJou} {r t : xF32} {d g : Int32} {s : xF64} (h : RA K (P, C, D, J, r, t, d, g) s) {fu : Nat} (hfu : 70000 < fu) (a1 a2 M3 F0 : Int32) (o : xF64) : ∃ F0' o', f_C_9 fu a1 a2 C M3 F0 s o = some (M3, F0', o') := by
  obtain ⟨n, c, m, j, dn, gn, hP, vP, hC, vC, hD, v1, v2, v3, hJ, h0⟩ := h.get
  have hn := hP.1
  have hc := hC.1
  have hm := hD.1
  obtain ⟨b, b1, b2, b3⟩ := c_has hC a1
  rcases b3 with rfl | ⟨rfl, i, hi, rfl⟩
  · have hx : f_X7_claimed a1 a2 C M3 = some (1, 0, M3) := by rw [f_X7_claimed, b1, xb1_s, f_X7_faultOfQuestion, if_pos rfl, xb1_s, rf7, xb2_s]; rfl
    have hy : f_X8_claimed a1 a2 F0 s = some (0, 1) := by rw [f_X8_claimed, b2, xb1_s, if_pos rfl, f_X8_fails, xb2_s]
    exact ⟨1, o, z_9 (k := 1) (by rw [f_L_claimed, hx, xb3_s]; rfl) hy rfl (fun q => absurd q (by decide))⟩
  obtain ⟨q, w1, w2, w3, w4⟩ := y_in3 a2 0 6
  have hq : f_X7_faultOfQuestion 1 a2 6 = some (if q = 0 then 8 else 0) := by
    rw [f_X7_faultOfQuestion, if_neg y_o, w2, xb1_s, y_ite]
  obtain ⟨q5, u1, u2, u3, u4⟩ := y_in3 a2 0 5
  rcases w4 with ⟨rfl, w4⟩ | ⟨rfl, w4, w5⟩
  · have w4' : ¬ (0 ≤ a2.toInt ∧ a2.toInt ≤ 6) := w4
    have ne : ¬ a2 = 6 := fun q => by subst q; exact w4' ⟨by decide, by decide⟩
    have h5 : q5 = 0 := by
      rcases u4 with ⟨u4, -⟩ | ⟨u4, u5, u6⟩
      · exact u4
      · have u5' : 0 ≤ a2.toInt := u5
        have u6' : a2.toInt ≤ 5 := u6
        exact absurd ⟨u5', by omega⟩ w4'
    subst h5
    have hx : f_X7_claimed (nI i) a2 C M3 = some (2, 0, M3) := by rw [f_X7_claimed, b1, xb1_s, hq, if_pos rfl, xb1_s, rf8, xb2_s]; rfl
    have hy : f_X8_claimed (nI i) a2 F0 s = some (0, 2) := by rw [f_X8_claimed, b2, xb1_s, if_neg y_o, u1, xb1_s, if_pos rfl, if_neg ne, f_X8_fails, xb2_s]
    exact ⟨2, o, z_9 (k := 2) (by rw [f_L_claimed, hx, xb3_s]; rfl) hy rfl (fun q => absurd q (by decide))⟩
  obtain ⟨w, -, hw, rfl⟩ := y_rg (lo := 0) (hi := 6) w4 w5 (by omega)
  have key : ∃ v, f_X1_numberOf (nI i) (nI w) C = some v ∧ f_X8_claimed (nI i) (nI w) F0 s = some (v, 0) := by
    by_cases c6 : w = 6
    · subst c6
      obtain ⟨L, k1, k2, k3⟩ := c_left hC vC hi
      have h5 : q5 = 0 := by
        rcases u4 with ⟨u4, -⟩ | ⟨u4, u5, u6⟩
        · exact u4
        · exact absurd u6 (by decide)
      subst h5
      have n0 : ¬ nI 6 = (0 : Int32) := by decide
      have n1 : ¬ nI 6 = (1 : Int32) := by decide
      have n2 : ¬ nI 6 = (2 : Int32) := by decide
      have n3 : ¬ nI 6 = (3 : Int32) := by decide
      have n4 : ¬ nI 6 = (4 : Int32) := by decide
      have n5 : ¬ nI 6 = (5 : Int32) := by decide
      have n6 : nI 6 = (6 : Int32) := rfl
      exact ⟨L, by rw [f_X1_numberOf, if_neg n0, if_neg n1, if_neg n2, if_neg n3, if_neg n4, if_neg n5, k1, xb1_s], by rw [f_X8_claimed, b2, xb1_s, if_neg y_o, u1, xb1_s, if_pos rfl, if_pos n6, k2, xb1_s, y_wn]⟩
    · obtain ⟨v, k1, k2⟩ := c_row hC hi w (by omega)
      have h5 : q5 = 1 := by
        rcases u4 with ⟨-, u4⟩ | ⟨u4, -⟩
        · have e5 : (5 : Int32).toInt = 5 := rfl
          have e0 : (0 : Int32).toInt = 0 := rfl
          rw [nI_toInt (by omega), e5, e0] at u4
          omega
        · exact u4
      subst h5
      exact ⟨v, k1, by rw [f_X8_claimed, b2, xb1_s, if_neg y_o, u1, xb1_s, if_neg y_o, c_at, xb1_s, y_xk (y_in (by omega) (by omega)), y_cl (by omega), k2, y_wn]⟩
  obtain ⟨v, k1, hy⟩ := key
  have hx : f_X7_claimed (nI i) (nI w) C M3 = some (0, v, M3) := by rw [f_X7_claimed, b1, xb1_s, hq, if_neg y_o, xb1_s, rf0, xb2_s, if_pos rfl, k1, xb1_s]
  exact ⟨0, vp_updL o 0 v.toInt64, z_9 (k := 0) (by rw [f_L_claimed, hx, xb3_s, if_pos rfl, y_xk y_i01, y_c0]) hy rfl (fun _ => y_us _ _ _)⟩
theorem s_10 {M3 F7 : Int32} (h : (M3 = -1 ∧ F7 = 0) ∨ (M3 = F7 ∧ 1 ≤ M3.toInt ∧ M3.toInt ≤ 6)) (fu : Nat) (F0 : Int32) (o : xF64) : ∃ F0' o', f_C_10 fu M3 F0 F7 o = some (F0', o') := by
  rcases h with ⟨rfl, rfl⟩ | ⟨rfl, h1, h2⟩
  · have hx : f_X7_reason (-1) = some (5, 0) := by rw [f_X7_reason, if_pos rfl]
    have hy : f_X8_reason F0 0 = some (0, 1) := by rw [f_X8_reason, if_pos rfl, f_X8_fails, xb2_s]
    exact ⟨1, o, z_10 (k := 1) (by rw [f_L_reason, hx, xb2_s]; rfl) hy rfl (fun q => absurd q (by decide))⟩
  · have n1 : ¬ M3 = -1 := fun q => by subst q; exact absurd h1 (by decide)
    have n0 : ¬ M3 = 0 := fun q => by subst q; exact absurd h1 (by decide)
    have hx : f_X7_reason M3 = some (0, M3) := by rw [f_X7_reason, if_neg n1]
    have hy : f_X8_reason F0 M3 = some (M3, 0) := by rw [f_X8_reason, if_neg n0]
    exact ⟨0, vp_updL o 0 M3.toInt64, z_10 (k := 0) (by rw [f_L_reason, hx, xb2_s, if_pos rfl, y_xk y_i01, y_c0]) hy rfl (fun _ => y_us _ _ _)⟩
theorem s_35 (fu : Nat) (M4 F0 : Int32) (o : xF64) : ∃ F0' o', f_C_35 fu M4 F0 M4 o = some (F0', o') := by
  by_cases c : M4 = -1
  · have hx : f_X7_errorPosition M4 = some (5, 0) := by rw [f_X7_errorPosition, if_pos c]
    have hy : f_X8_errorPosition F0 M4 = some (0, 1) := by rw [f_X8_errorPosition, if_pos c, f_X8_fails, xb2_s]
    exact ⟨1, o, z_35 (k := 1) (by rw [f_L_errorPosition, hx, xb2_s]; rfl) hy rfl (fun q => absurd q (by decide))⟩
  · have hx : f_X7_errorPosition M4 = some (0, M4) := by rw [f_X7_errorPosition, if_neg c]
    have hy : f_X8_errorPosition F0 M4 = some (M4, 0) := by rw [f_X8_errorPosition, if_neg c]
    exact ⟨0, vp_updL o 0 M4.toInt64, z_35 (k := 0) (by rw [f_L_errorPosition, hx, xb2_s, if_pos rfl, y_xk y_i01, y_c0]) hy rfl (fun _ => y_us _ _ _)⟩
theorem s_11 {K : Int} (hK0 : 0 ≤ K) (hK : K ≤ 17920) {P : sPar} {C : sCla} {D : sDeb} {J : sJou} {r t : xF32} {d g : Int32} {s : xF64} (h : RA K (P, C, D, J, r, t, d, g) s) {fu : Nat} (hfu : 70000 < fu) (F0 : Int32) : ∃ F0', f_C_11 fu C F0 s = some F0' := by
  obtain ⟨n, c, m, j, dn, gn, hP, vP, hC, vC, hD, v1, v2, v3, hJ, h0⟩ := h.get
  have hn := hP.1
  have hc := hC.1
  have hm := hD.1
  obtain ⟨S, k1, k2, -⟩ := c_disputed hC vC (fu := fu) (by omega)
  exact ⟨0, z_11 (w := S) (by rw [f_X7_inDispute, k1, xb1_s]) (by rw [f_X8_inDispute, k2, xb1_s])⟩
theorem s_12 {K : Int} (hK0 : 0 ≤ K) (hK : K ≤ 17920) {P : sPar} {C : sCla} {D : sDeb} {J : sJou} {r t : xF32} {d g : Int32} {s : xF64} (h : RA K (P, C, D, J, r, t, d, g) s) {fu : Nat} (hfu : 70000 < fu) (a1 F0 : Int32) (o : xF64) : ∃ F0' o', f_C_12 fu a1 C t F0 s o = some (F0', o') := by
  obtain ⟨n, c, m, j, dn, gn, hP, vP, hC, vC, hD, v1, v2, v3, hJ, h0⟩ := h.get
  have hn := hP.1
  have hc := hC.1
  have hm := hD.1
  by_cases ca : a1 = -1
  · obtain ⟨v, k1, k2, -⟩ := f_all hC vC h0 (fu := fu) (by omega)
    have hx : f_X7_fees fu a1 C t = some (0, v) := by rw [f_X7_fees, if_pos ca, k1, xb1_s]
    have hy : f_X8_fees fu a1 F0 s = some (v, 0) := by rw [f_X8_fees, if_pos ca, k2, xb1_s]
    exact ⟨0, vp_updL o 0 v, z_12 (k := 0) (by rw [f_L_fees, hx, xb2_s, if_pos rfl, y_xk y_i01, y_c0]) hy rfl (fun _ => y_us _ _ _)⟩
  obtain ⟨q, w1, w2, w3, w4⟩ := y_in3 a1 0 3
  rcases w4 with ⟨rfl, w4⟩ | ⟨rfl, w4, w5⟩
  · have hx : f_X7_fees fu a1 C t = some (1, 0) := by rw [f_X7_fees, if_neg ca, w2, xb1_s, if_pos rfl]
    have hy : f_X8_fees fu a1 F0 s = some (0, 1) := by rw [f_X8_fees, if_neg ca, w1, xb1_s, if_pos rfl, f_X8_failsLong, xb2_s]
    exact ⟨1, o, z_12 (k := 1) (by rw [f_L_fees, hx, xb2_s]; rfl) hy rfl (fun q => absurd q (by decide))⟩
  obtain ⟨w, -, hw, rfl⟩ := y_rg (lo := 0) (hi := 3) w4 w5 (by omega)
  obtain ⟨S, k1, k2, -⟩ := c_disputed hC vC (fu := fu) (by omega)
  have hx : f_X7_fees fu (nI w) C t = some (0, yF S t w) := by rw [f_X7_fees, if_neg ca, w2, xb1_s, if_neg y_o, k1, xb1_s, f_tier_c S t w (by omega), xb1_s]
  have hy : f_X8_fees fu (nI w) F0 s = some (yF S t w, 0) := by rw [f_X8_fees, if_neg ca, w1, xb1_s, if_neg y_o, k2, xb1_s, f_tier_r h0 S (by omega), xb1_s]
  exact ⟨0, vp_updL o 0 (yF S t w), z_12 (k := 0) (by rw [f_L_fees, hx, xb2_s, if_pos rfl, y_xk y_i01, y_c0]) hy rfl (fun _ => y_us _ _ _)⟩
theorem s_13 {K : Int} (hK0 : 0 ≤ K) (hK : K ≤ 17920) {P : sPar} {C : sCla} {D : sDeb} {J : sJou} {r t : xF32} {d g : Int32} {s : xF64} (h : RA K (P, C, D, J, r, t, d, g) s) {fu : Nat} (hfu : 70000 < fu) (a1 F0 : Int32) (o : xF64) : ∃ F0' o', f_C_13 fu a1 t F0 s o = some (F0', o') := by
  obtain ⟨n, c, m, j, dn, gn, hP, vP, hC, vC, hD, v1, v2, v3, hJ, h0⟩ := h.get
  have hn := hP.1
  have hc := hC.1
  have hm := hD.1
  obtain ⟨q, w1, w2, w3, w4⟩ := y_in3 a1 1 1200000000
  rcases w4 with ⟨rfl, w4⟩ | ⟨rfl, w4, w5⟩
  · have hx : f_X7_wouldBe fu a1 t = some (2, 0) := by rw [f_X7_wouldBe, w2, xb1_s, if_pos rfl]
    have hy : f_X8_wouldBe a1 F0 s = some (0, 1) := by rw [f_X8_wouldBe, w1, xb1_s, if_pos rfl, f_X8_failsLong, xb2_s]
    exact ⟨1, o, z_13 (k := 1) (by rw [f_L_wouldBe, hx, xb2_s]; rfl) hy rfl (fun q => absurd q (by decide))⟩
  have hx : f_X7_wouldBe fu a1 t = some (0, yF a1.toInt64 t 0 + yF a1.toInt64 t 1 + yF a1.toInt64 t 2 + yF a1.toInt64 t 3 + 5000) := by rw [f_X7_wouldBe, w2, xb1_s, if_neg y_o, f_sum _ t (fu := fu) (by omega), xb1_s, y_5]
  have hy : f_X8_wouldBe a1 F0 s = some (yF a1.toInt64 t 0 + yF a1.toInt64 t 1 + yF a1.toInt64 t 2 + yF a1.toInt64 t 3 + 5000, 0) := by rw [f_X8_wouldBe, w1, xb1_s, if_neg y_o, f_tiers h0, xb1_s]
  exact ⟨0, vp_updL o 0 (yF a1.toInt64 t 0 + yF a1.toInt64 t 1 + yF a1.toInt64 t 2 + yF a1.toInt64 t 3 + 5000), z_13 (k := 0) (by rw [f_L_wouldBe, hx, xb2_s, if_pos rfl, y_xk y_i01, y_c0]) hy rfl (fun _ => y_us _ _ _)⟩
theorem s_14 {K : Int} (hK0 : 0 ≤ K) (hK : K ≤ 17920) {P : sPar} {C : sCla} {D : sDeb} {J : sJou} {r t : xF32} {d g : Int32} {s : xF64} (h : RA K (P, C, D, J, r, t, d, g) s) {fu : Nat} (hfu : 70000 < fu) (a1 a2 M3 F0 : Int32) (o : xF64) : ∃ F0' o', f_C_14 fu a1 a2 P C t M3 F0 s o = some (M3, F0', o') := by
  obtain ⟨n, c, m, j, dn, gn, hP, vP, hC, vC, hD, v1, v2, v3, hJ, h0⟩ := h.get
  have hn := hP.1
  have hc := hC.1
  have hm := hD.1
  obtain ⟨b, b1, b2, bb, b3⟩ := y_in3 a1 0 1
  have hsd : f_X7_isSide a1 = some b := by rw [f_X7_isSide, b2, xb1_s, bb, xk_t]
  rcases b3 with ⟨rfl, -⟩ | ⟨rfl, -⟩
  · have hx : f_X7_side fu a1 a2 P C t M3 = some (1, 0, M3) := by rw [f_X7_side, hsd, xb1_s, f_X7_faultOfQuestion, if_pos rfl, xb1_s, rf7, xb2_s]; rfl
    have hy : f_X8_side fu a1 a2 F0 s = some (0, 1) := by rw [f_X8_side, b1, xb1_s, if_pos rfl, f_X8_failsLong, xb2_s]
    exact ⟨1, o, z_14 (k := 1) (by rw [f_L_side, hx, xb3_s]; rfl) hy rfl (fun q => absurd q (by decide))⟩
  obtain ⟨q, w1, w2, w3, w4⟩ := y_in3 a2 0 3
  have hq : f_X7_faultOfQuestion 1 a2 3 = some (if q = 0 then 8 else 0) := by
    rw [f_X7_faultOfQuestion, if_neg y_o, w2, xb1_s, y_ite]
  rcases w4 with ⟨rfl, w4⟩ | ⟨rfl, w4, w5⟩
  · have w4' : ¬ (0 ≤ a2.toInt ∧ a2.toInt ≤ 3) := w4
    have ne : ∀ z : Int32, 0 ≤ z.toInt → z.toInt ≤ 3 → ¬ a2 = z := fun z h1 h2 q => by subst q; exact w4' ⟨h1, h2⟩
    have hx : f_X7_side fu a1 a2 P C t M3 = some (2, 0, M3) := by rw [f_X7_side, hsd, xb1_s, hq, if_pos rfl, xb1_s, rf8, xb2_s]; rfl
    have hy : f_X8_side fu a1 a2 F0 s = some (0, 2) := by rw [f_X8_side, b1, xb1_s, if_neg y_o, if_neg (ne 0 (by decide) (by decide)), if_neg (ne 1 (by decide) (by decide)), if_neg (ne 2 (by decide) (by decide)), if_neg (ne 3 (by decide) (by decide)), f_X8_failsLong, xb2_s]
    exact ⟨2, o, z_14 (k := 2) (by rw [f_L_side, hx, xb3_s]; rfl) hy rfl (fun q => absurd q (by decide))⟩
  obtain ⟨w, -, hw, rfl⟩ := y_rg (lo := 0) (hi := 3) w4 w5 (by omega)
  have key : ∃ v, f_X0_numberOfSide fu a1 (nI w) P C t = some v ∧ f_X8_side fu a1 (nI w) F0 s = some (v, 0) := by
    obtain rfl | rfl | rfl | rfl : w = 0 ∨ w = 1 ∨ w = 2 ∨ w = 3 := by omega
    · obtain ⟨S, k1, k2, -⟩ := c_lost hP hC vC (fu := fu) (by omega) a1
      have n0 : nI 0 = (0 : Int32) := rfl
      exact ⟨S, by rw [f_X0_numberOfSide, if_pos n0, k1, xb1_s], by rw [f_X8_side, b1, xb1_s, if_neg y_o, if_pos n0, k2, xb1_s]⟩
    · obtain ⟨S, k1, k2, -⟩ := f_side hP hC vC h0 (fu := fu) (by omega) a1
      have n0 : ¬ nI 1 = (0 : Int32) := by decide
      have n1 : nI 1 = (1 : Int32) := rfl
      exact ⟨S, by rw [f_X0_numberOfSide, if_neg n0, if_pos n1, k1, xb1_s], by rw [f_X8_side, b1, xb1_s, if_neg y_o, if_neg n0, if_pos n1, k2, xb1_s]⟩
    · obtain ⟨k1, k2⟩ := p_count hP (fu := fu) (by omega) a1
      have n0 : ¬ nI 2 = (0 : Int32) := by decide
      have n1 : ¬ nI 2 = (1 : Int32) := by decide
      have n2 : nI 2 = (2 : Int32) := rfl
      exact ⟨_, by rw [f_X0_numberOfSide, if_neg n0, if_neg n1, if_pos n2, k1, xb1_s], by rw [f_X8_side, b1, xb1_s, if_neg y_o, if_neg n0, if_neg n1, if_pos n2, k2, xb1_s]⟩
    · have k1 := p_weightOn hP (fu := fu) (by omega) a1
      have k2 := (p_weights hP vP (fu := fu) (by omega) a1).1
      have n0 : ¬ nI 3 = (0 : Int32) := by decide
      have n1 : ¬ nI 3 = (1 : Int32) := by decide
      have n2 : ¬ nI 3 = (2 : Int32) := by decide
      have n3 : nI 3 = (3 : Int32) := rfl
      exact ⟨_, by rw [f_X0_numberOfSide, if_neg n0, if_neg n1, if_neg n2, k1, xb1_s], by rw [f_X8_side, b1, xb1_s, if_neg y_o, if_neg n0, if_neg n1, if_neg n2, if_pos n3, k2, xb1_s]⟩
  obtain ⟨v, k1, hy⟩ := key
  have hx : f_X7_side fu a1 (nI w) P C t M3 = some (0, v, M3) := by rw [f_X7_side, hsd, xb1_s, hq, if_neg y_o, xb1_s, rf0, xb2_s, if_pos rfl, k1, xb1_s]
  exact ⟨0, vp_updL o 0 v, z_14 (k := 0) (by rw [f_L_side, hx, xb3_s, if_pos rfl, y_xk y_i01, y_c0]) hy rfl (fun _ => y_us _ _ _)⟩
theorem s_20 {K : Int} (hK0 : 0 ≤ K) (hK : K ≤ 17920) {P : sPar} {C : sCla} {D : sDeb} {J : sJou} {r t : xF32} {d g : Int32} {s : xF64} (h : RA K (P, C, D, J, r, t, d, g) s) {fu : Nat} (hfu : 70000 < fu) (a1 a2 F0 : Int32) (o : xF64) : ∃ F0' o', f_C_20 fu a1 a2 P D F0 s o = some (F0', o') := by
  obtain ⟨n, c, m, j, dn, gn, hP, vP, hC, vC, hD, v1, v2, v3, hJ, h0⟩ := h.get
  have hn := hP.1
  have hc := hC.1
  have hm := hD.1
  rcases p_both hP a1 a2 with ⟨b1, b2⟩ | ⟨b1, b2, b3, -⟩
  · have hx : f_X7_owed fu a1 a2 P D = some (1, 0) := by rw [f_X7_owed, b1, xb1_s, if_pos rfl]
    have hy : f_X8_owed fu a1 a2 F0 s = some (0, 1) := by
      rcases b2 with b2 | ⟨b2, b3⟩
      · rw [f_X8_owed, b2, xb1_s, if_pos rfl, f_X8_failsLong, xb2_s]
      · rw [f_X8_owed, b2, xb1_s, if_neg y_o, b3, xb1_s, if_pos rfl, f_X8_failsLong, xb2_s]
    exact ⟨1, o, z_20 (k := 1) (by rw [f_L_owed, hx, xb2_s]; rfl) hy rfl (fun q => absurd q (by decide))⟩
  obtain ⟨v, k1, k2, -⟩ := d_owed hD (fu := fu) (by omega) a1 a2
  have hx : f_X7_owed fu a1 a2 P D = some (0, v) := by rw [f_X7_owed, b1, xb1_s, if_neg y_o, k1, xb1_s]
  have hy : f_X8_owed fu a1 a2 F0 s = some (v, 0) := by rw [f_X8_owed, b2, xb1_s, if_neg y_o, b3, xb1_s, if_neg y_o, k2, xb1_s]
  exact ⟨0, vp_updL o 0 v, z_20 (k := 0) (by rw [f_L_owed, hx, xb2_s, if_pos rfl, y_xk y_i01, y_c0]) hy rfl (fun _ => y_us _ _ _)⟩
theorem s_21 {K : Int} (hK0 : 0 ≤ K) (hK : K ≤ 17920) {P : sPar} {C : sCla} {D : sDeb} {J : sJou} {r t : xF32} {d g : Int32} {s : xF64} (h : RA K (P, C, D, J, r, t, d, g) s) {fu : Nat} (hfu : 70000 < fu) (a1 a2 M3 F0 : Int32) (o : xF64) : ∃ F0' o', f_C_21 fu a1 a2 D M3 F0 s o = some (M3, F0', o') := by
  obtain ⟨n, c, m, j, dn, gn, hP, vP, hC, vC, hD, v1, v2, v3, hJ, h0⟩ := h.get
  have hn := hP.1
  have hc := hC.1
  have hm := hD.1
  obtain ⟨b, b1, b2, b3⟩ := d_has hD a1
  rcases b3 with rfl | ⟨rfl, i, hi, rfl⟩
  · have hx : f_X7_debt a1 a2 D M3 = some (1, 0, M3) := by rw [f_X7_debt, b1, xb1_s, f_X7_faultOfQuestion, if_pos rfl, xb1_s, rf7, xb2_s]; rfl
    have hy : f_X8_debt a1 a2 F0 s = some (0, 1) := by rw [f_X8_debt, b2, xb1_s, if_pos rfl, f_X8_failsLong, xb2_s]
    exact ⟨1, o, z_21 (k := 1) (by rw [f_L_debt, hx, xb3_s]; rfl) hy rfl (fun q => absurd q (by decide))⟩
  obtain ⟨q, w1, w2, w3, w4⟩ := y_in3 a2 0 4
  have hq : f_X7_faultOfQuestion 1 a2 4 = some (if q = 0 then 8 else 0) := by
    rw [f_X7_faultOfQuestion, if_neg y_o, w2, xb1_s, y_ite]
  rcases w4 with ⟨rfl, w4⟩ | ⟨rfl, w4, w5⟩
  · have hx : f_X7_debt (nI i) a2 D M3 = some (2, 0, M3) := by rw [f_X7_debt, b1, xb1_s, hq, if_pos rfl, xb1_s, rf8, xb2_s]; rfl
    have hy : f_X8_debt (nI i) a2 F0 s = some (0, 2) := by rw [f_X8_debt, b2, xb1_s, if_neg y_o, w1, xb1_s, if_pos rfl, f_X8_failsLong, xb2_s]
    exact ⟨2, o, z_21 (k := 2) (by rw [f_L_debt, hx, xb3_s]; rfl) hy rfl (fun q => absurd q (by decide))⟩
  obtain ⟨w, -, hw, rfl⟩ := y_rg (lo := 0) (hi := 4) w4 w5 (by omega)
  have k1 := d_row hD hi w (by omega)
  have hx : f_X7_debt (nI i) (nI w) D M3 = some (0, s (122 + 5 * i + w), M3) := by rw [f_X7_debt, b1, xb1_s, hq, if_neg y_o, xb1_s, rf0, xb2_s, if_pos rfl, k1, xb1_s]
  have hy : f_X8_debt (nI i) (nI w) F0 s = some (s (122 + 5 * i + w), 0) := by rw [f_X8_debt, b2, xb1_s, if_neg y_o, w1, xb1_s, if_neg y_o, d_at, xb1_s, y_xk (y_in (by omega) (by omega)), y_cl (by omega)]
  exact ⟨0, vp_updL o 0 (s (122 + 5 * i + w)), z_21 (k := 0) (by rw [f_L_debt, hx, xb3_s, if_pos rfl, y_xk y_i01, y_c0]) hy rfl (fun _ => y_us _ _ _)⟩
theorem s_26 {K : Int} (hK0 : 0 ≤ K) (hK : K ≤ 17920) {P : sPar} {C : sCla} {D : sDeb} {J : sJou} {r t : xF32} {d g : Int32} {s : xF64} (h : RA K (P, C, D, J, r, t, d, g) s) {fu : Nat} (hfu : 70000 < fu) (a1 F0 : Int32) (o : xF64) : ∃ F0' o', f_C_26 fu a1 P D F0 s o = some (F0', o') := by
  obtain ⟨n, c, m, j, dn, gn, hP, vP, hC, vC, hD, v1, v2, v3, hJ, h0⟩ := h.get
  have hn := hP.1
  have hc := hC.1
  have hm := hD.1
  obtain ⟨b, b1, b2, b3⟩ := p_has hP a1
  rcases b3 with rfl | ⟨rfl, i, hi, rfl⟩
  · have hx : f_X7_net fu a1 P D = some (1, 0) := by rw [f_X7_net, b1, xb1_s, if_pos rfl]
    have hy : f_X8_net fu a1 F0 s = some (0, 1) := by rw [f_X8_net, b2, xb1_s, if_pos rfl, f_X8_failsLong, xb2_s]
    exact ⟨1, o, z_26 (k := 1) (by rw [f_L_net, hx, xb2_s]; rfl) hy rfl (fun q => absurd q (by decide))⟩
  obtain ⟨S, k1, k2⟩ := d_to hD (fu := fu) (by omega) (nI i)
  obtain ⟨S', k3, k4⟩ := d_by hD (fu := fu) (by omega) (nI i)
  have hx : f_X7_net fu (nI i) P D = some (0, S - S') := by rw [f_X7_net, b1, xb1_s, if_neg y_o, k1, xb1_s, k3, xb1_s]
  have hy : f_X8_net fu (nI i) F0 s = some (S - S', 0) := by rw [f_X8_net, b2, xb1_s, if_neg y_o, k2, xb1_s, k4, xb1_s]
  exact ⟨0, vp_updL o 0 (S - S'), z_26 (k := 0) (by rw [f_L_net, hx, xb2_s, if_pos rfl, y_xk y_i01, y_c0]) hy rfl (fun _ => y_us _ _ _)⟩
theorem s_31 {K : Int} (hK0 : 0 ≤ K) (hK : K ≤ 17920) {P : sPar} {C : sCla} {D : sDeb} {J : sJou} {r t : xF32} {d g : Int32} {s : xF64} (h : RA K (P, C, D, J, r, t, d, g) s) {fu : Nat} (hfu : 70000 < fu) (a1 a2 F0 : Int32) (o : xF64) : ∃ F0' o', f_C_31 fu a1 a2 J F0 s o = some (F0', o') := by
  obtain ⟨n, c, m, j, dn, gn, hP, vP, hC, vC, hD, v1, v2, v3, hJ, h0⟩ := h.get
  have hn := hP.1
  have hc := hC.1
  have hm := hD.1
  have hj := hJ.1
  obtain ⟨b, b1, b2, b3⟩ := y_has a1 (c := j) (by omega)
  have b1' : f_X3_has a1 J = some b := by rw [f_X3_has, hJ.2.1]; exact b1
  have i5 : xin 5 304 = true := by decide
  have l5 : (5 : Int32).toNatClampNeg = 5 := rfl
  have b2' : f_X8_in a1 0 (nI j - 1) = some b := by
    obtain ⟨v, u1, u2, u3, u4⟩ := y_in3 a1 0 (nI j - 1)
    rw [u1, xb1_s, u3, xk_t] at b2
    rw [u1, b2]
  have hin : ∀ k : xF64 → Option (Int64 × Int32), True := fun _ => trivial
  rcases b3 with rfl | ⟨rfl, i, hi, rfl⟩
  · have hx : ∀ z, f_X7_entry a1 z J = some (5, 0) := fun z => by rw [f_X7_entry, b1', xb1_s, if_pos rfl]
    have hy : ∀ z, f_X8_entry a1 z F0 s = some (0, 1) := fun z => by rw [f_X8_entry, y_xk i5, l5, hJ.2.2.1, lN_i, b2', xb1_s, if_pos rfl, f_X8_failsLong, xb2_s]
    exact ⟨1, o, z_31 (k := 1) (by rw [f_L_entry, hx, xb2_s]; rfl) (hy _) rfl (fun q => absurd q (by decide))⟩
  obtain ⟨m1, m2⟩ := hJ.2.2.2 i hi
  have x16 : xin (nI i) 16 = true := y_in (by omega) (by omega)
  have e0 : 272 + 2 * nI i + 0 = nI (272 + 2 * i) := by rw [q272, q2, q0, pk_mul, nI_add, nI_add]; rfl
  have e1 : 272 + 2 * nI i + 1 = nI (272 + 2 * i + 1) := by rw [q272, q2, pk_mul, nI_add, nI_1]
  by_cases ca : a2 = 0
  · have hx : f_X7_entry (nI i) (if a2 = 0 then 0 else 1) J = some (0, (J.2.1 i).toInt64) := by rw [if_pos ca, f_X7_entry, b1', xb1_s, if_neg y_o, if_pos rfl, y_xk x16, y_cl (by omega)]
    have hy : f_X8_entry (nI i) (if a2 = 0 then 0 else 1) F0 s = some ((J.2.1 i).toInt64, 0) := by rw [if_pos ca, f_X8_entry, y_xk i5, l5, hJ.2.2.1, lN_i, b2', xb1_s, if_neg y_o, if_pos rfl, e0, y_xk (y_in (by omega) (by omega)), y_cl (by omega), m1]
    exact ⟨0, vp_updL o 0 (J.2.1 i).toInt64, z_31 (k := 0) (by rw [f_L_entry, hx, xb2_s, if_pos rfl, y_xk y_i01, y_c0]) hy rfl (fun _ => y_us _ _ _)⟩
  · have hx : f_X7_entry (nI i) (if a2 = 0 then 0 else 1) J = some (0, J.2.2 i) := by rw [if_neg ca, f_X7_entry, b1', xb1_s, if_neg y_o, if_neg y_o, y_xk x16, y_cl (by omega)]
    have hy : f_X8_entry (nI i) (if a2 = 0 then 0 else 1) F0 s = some (J.2.2 i, 0) := by rw [if_neg ca, f_X8_entry, y_xk i5, l5, hJ.2.2.1, lN_i, b2', xb1_s, if_neg y_o, if_neg y_o, e1, y_xk (y_in (by omega) (by omega)), y_cl (by omega), m2]
    exact ⟨0, vp_updL o 0 (J.2.2 i), z_31 (k := 0) (by rw [f_L_entry, hx, xb2_s, if_pos rfl, y_xk y_i01, y_c0]) hy rfl (fun _ => y_us _ _ _)⟩
theorem s_32 {K : Int} (hK0 : 0 ≤ K) (hK : K ≤ 17920) {P : sPar} {C : sCla} {D : sDeb} {J : sJou} {r t : xF32} {d g : Int32} {s : xF64} (h : RA K (P, C, D, J, r, t, d, g) s) {fu : Nat} (hfu : 70000 < fu) (a1 F0 : Int32) (v : Nat → UInt64) : ∃ F0' v', f_C_32 fu a1 P C F0 s v = some (F0', v') := by
  obtain ⟨n, c, m, j, dn, gn, hP, vP, hC, vC, hD, v1, v2, v3, hJ, h0⟩ := h.get
  have hn := hP.1
  have hc := hC.1
  have hm := hD.1
  obtain ⟨U, L, k1, k2, k3⟩ := c_quota hP hC vC (fu := fu) (by omega) a1
  obtain ⟨b, b1, b2, bb, b3⟩ := y_in3 a1 0 1
  have hsd : f_X7_isSide a1 = some b := by rw [f_X7_isSide, b2, xb1_s, bb, xk_t]
  rcases b3 with ⟨rfl, -⟩ | ⟨rfl, -⟩
  · have hx : f_X7_quota fu a1 P C = some (1, 0) := by rw [f_X7_quota, hsd, xb1_s, if_pos rfl]
    have hy : f_X8_quota fu a1 F0 s = some (FP.dconst0, 1) := by rw [k3, b1, xb1_s, if_pos rfl]
    exact ⟨1, v, z_32 (k := 1) (by rw [f_L_quota, hx, xb2_s]; rfl) hy rfl (fun q => absurd q (by decide))⟩
  by_cases cl : L = 0
  · have hx : f_X7_quota fu a1 P C = some (6, 0) := by rw [f_X7_quota, hsd, xb1_s, if_neg y_o, k2, xb1_s, if_pos cl]
    have hy : f_X8_quota fu a1 F0 s = some (FP.dconst0, 2) := by rw [k3, b1, xb1_s, if_neg y_o, if_pos cl]
    exact ⟨2, v, z_32 (k := 2) (by rw [f_L_quota, hx, xb2_s]; rfl) hy rfl (fun q => absurd q (by decide))⟩
  · have hnan : xn64 (FP.ddiv (FP.l2d U) (FP.l2d L)) = true := y_nan cl
    have hx : f_X7_quota fu a1 P C = some (0, FP.ddiv (FP.l2d U) (FP.l2d L)) := by rw [f_X7_quota, hsd, xb1_s, if_neg y_o, k2, xb1_s, if_neg cl, k1, xb1_s, y_xk hnan]
    have hy : f_X8_quota fu a1 F0 s = some (FP.ddiv (FP.l2d U) (FP.l2d L), 0) := by rw [k3, b1, xb1_s, if_neg y_o, if_neg cl, y_xk hnan]
    exact ⟨0, vf_upd v 0 (FP.ddiv (FP.l2d U) (FP.l2d L)), z_32 (k := 0) (by rw [f_L_quota, hx, xb2_s, if_pos rfl, y_xk y_i01, y_c0]) hy rfl (fun _ => if_pos rfl)⟩
theorem s_30 {K : Int} (hK0 : 0 ≤ K) (hK : K ≤ 17920) {P : sPar} {C : sCla} {D : sDeb} {J : sJou} {r t : xF32} {d g : Int32} {s : xF64} (h : RA K (P, C, D, J, r, t, d, g) s) {fu : Nat} (hfu : 70000 < fu) (a1 F0 : Int32) (o : xF64) : ∃ F0' o', f_C_30 fu a1 P C D d g F0 s o = some (F0', o') := by
  obtain ⟨n, c, m, j, dn, gn, hP, vP, hC, vC, hD, v1, v2, v3, hJ, h0⟩ := h.get
  have hn := hP.1
  have hc := hC.1
  have hm := hD.1
  obtain ⟨q, w1, w2, w3, w4⟩ := y_in3 a1 0 11
  rcases w4 with ⟨rfl, w4⟩ | ⟨rfl, w4, w5⟩
  · have w4' : ¬ (0 ≤ a1.toInt ∧ a1.toInt ≤ 11) := w4
    have ne : ∀ z : Int32, 0 ≤ z.toInt → z.toInt ≤ 11 → ¬ a1 = z := fun z h1 h2 q => by subst q; exact w4' ⟨h1, h2⟩
    obtain ⟨q5, u1, u2, u3, u4⟩ := y_in3 a1 4 7
    have h5 : q5 = 0 := by
      rcases u4 with ⟨u4, -⟩ | ⟨u4, u5, u6⟩
      · exact u4
      · have u5' : 4 ≤ a1.toInt := u5
        have u6' : a1.toInt ≤ 7 := u6
        exact absurd ⟨by omega, by omega⟩ w4'
    subst h5
    have hx : f_X7_account fu a1 P C D d g = some (2, 0) := by rw [f_X7_account, w2, xb1_s, if_pos rfl]
    have hy : f_X8_account fu a1 F0 s = some (0, 1) := by rw [f_X8_account, if_neg (ne 0 (by decide) (by decide)), if_neg (ne 1 (by decide) (by decide)), if_neg (ne 2 (by decide) (by decide)), if_neg (ne 3 (by decide) (by decide)), if_neg (ne 8 (by decide) (by decide)), if_neg (ne 9 (by decide) (by decide)), if_neg (ne 10 (by decide) (by decide)), u1, xb1_s, if_pos rfl, if_neg (ne 11 (by decide) (by decide)), f_X8_failsLong, xb2_s]
    exact ⟨1, o, z_30 (k := 1) (by rw [f_L_account, hx, xb2_s]; rfl) hy rfl (fun q => absurd q (by decide))⟩
  have key : ∃ v, f_X0_numberOfAccount fu a1 P C D d g = some v ∧ f_X8_account fu a1 F0 s = some (v, 0) := by
    obtain ⟨w, -, hw, rfl⟩ := y_rg (lo := 0) (hi := 11) w4 w5 (by omega)
    obtain ⟨g1, g2, rfl, rfl, g5, g6, g7⟩ := h0
    have i0 : xin 0 304 = true := by decide
    have i1 : xin 1 304 = true := by decide
    have i2 : xin 2 304 = true := by decide
    have i3 : xin 3 304 = true := by decide
    have i4 : xin 4 304 = true := by decide
    have l1 : (1 : Int32).toNatClampNeg = 1 := rfl
    have l2 : (2 : Int32).toNatClampNeg = 2 := rfl
    have l3 : (3 : Int32).toNatClampNeg = 3 := rfl
    have l4 : (4 : Int32).toNatClampNeg = 4 := rfl
    have tot : ∀ z, z < 6 → ∀ k, k < n → f_X4_numberOf (nI k) (nI z) P = some (s (14 + 6 * z + k)) := fun z hz k hk => p_row hP hk z hz
    obtain rfl | rfl | rfl | rfl | rfl | rfl | rfl | rfl | rfl | rfl | rfl | rfl : w = 0 ∨ w = 1 ∨ w = 2 ∨ w = 3 ∨ w = 4 ∨ w = 5 ∨ w = 6 ∨ w = 7 ∨ w = 8 ∨ w = 9 ∨ w = 10 ∨ w = 11 := by omega
    · have n1 : ¬ nI 0 = (1 : Int32) := by decide
      have n2 : ¬ nI 0 = (2 : Int32) := by decide
      have n3 : ¬ nI 0 = (3 : Int32) := by decide
      have n4 : ¬ nI 0 = (4 : Int32) := by decide
      have n5 : ¬ nI 0 = (5 : Int32) := by decide
      have n6 : ¬ nI 0 = (6 : Int32) := by decide
      have n7 : ¬ nI 0 = (7 : Int32) := by decide
      have n8 : ¬ nI 0 = (8 : Int32) := by decide
      have n9 : ¬ nI 0 = (9 : Int32) := by decide
      have n10 : ¬ nI 0 = (10 : Int32) := by decide
      have n11 : ¬ nI 0 = (11 : Int32) := by decide
      have n0 : nI 0 = (0 : Int32) := rfl
      exact ⟨lN n, by rw [f_X0_numberOfAccount, if_pos n0, hP.2.1, nI_l (by omega)], by rw [f_X8_account, if_pos n0, y_xk i2, l2, hP.2.2.1]⟩
    · have n0 : ¬ nI 1 = (0 : Int32) := by decide
      have n2 : ¬ nI 1 = (2 : Int32) := by decide
      have n3 : ¬ nI 1 = (3 : Int32) := by decide
      have n4 : ¬ nI 1 = (4 : Int32) := by decide
      have n5 : ¬ nI 1 = (5 : Int32) := by decide
      have n6 : ¬ nI 1 = (6 : Int32) := by decide
      have n7 : ¬ nI 1 = (7 : Int32) := by decide
      have n8 : ¬ nI 1 = (8 : Int32) := by decide
      have n9 : ¬ nI 1 = (9 : Int32) := by decide
      have n10 : ¬ nI 1 = (10 : Int32) := by decide
      have n11 : ¬ nI 1 = (11 : Int32) := by decide
      have n1 : nI 1 = (1 : Int32) := rfl
      exact ⟨lN c, by rw [f_X0_numberOfAccount, if_neg n0, if_pos n1, hC.2.1, nI_l (by omega)], by rw [f_X8_account, if_neg n0, if_pos n1, y_xk i3, l3, hC.2.2.1]⟩
    · have n0 : ¬ nI 2 = (0 : Int32) := by decide
      have n1 : ¬ nI 2 = (1 : Int32) := by decide
      have n3 : ¬ nI 2 = (3 : Int32) := by decide
      have n4 : ¬ nI 2 = (4 : Int32) := by decide
      have n5 : ¬ nI 2 = (5 : Int32) := by decide
      have n6 : ¬ nI 2 = (6 : Int32) := by decide
      have n7 : ¬ nI 2 = (7 : Int32) := by decide
      have n8 : ¬ nI 2 = (8 : Int32) := by decide
      have n9 : ¬ nI 2 = (9 : Int32) := by decide
      have n10 : ¬ nI 2 = (10 : Int32) := by decide
      have n11 : ¬ nI 2 = (11 : Int32) := by decide
      have n2 : nI 2 = (2 : Int32) := rfl
      exact ⟨lN m, by rw [f_X0_numberOfAccount, if_neg n0, if_neg n1, if_pos n2, hD.2.1, nI_l (by omega)], by rw [f_X8_account, if_neg n0, if_neg n1, if_pos n2, y_xk i4, l4, hD.2.2.1]⟩
    · have n0 : ¬ nI 3 = (0 : Int32) := by decide
      have n1 : ¬ nI 3 = (1 : Int32) := by decide
      have n2 : ¬ nI 3 = (2 : Int32) := by decide
      have n4 : ¬ nI 3 = (4 : Int32) := by decide
      have n5 : ¬ nI 3 = (5 : Int32) := by decide
      have n6 : ¬ nI 3 = (6 : Int32) := by decide
      have n7 : ¬ nI 3 = (7 : Int32) := by decide
      have n8 : ¬ nI 3 = (8 : Int32) := by decide
      have n9 : ¬ nI 3 = (9 : Int32) := by decide
      have n10 : ¬ nI 3 = (10 : Int32) := by decide
      have n11 : ¬ nI 3 = (11 : Int32) := by decide
      have n3 : nI 3 = (3 : Int32) := rfl
      obtain ⟨S, k1, k2⟩ := d_all hD (fu := fu) (by omega)
      exact ⟨S, by rw [f_X0_numberOfAccount, if_neg n0, if_neg n1, if_neg n2, if_pos n3, k1, xb1_s], by rw [f_X8_account, if_neg n0, if_neg n1, if_neg n2, if_pos n3, k2, xb1_s]⟩
    · have n0 : ¬ nI 4 = (0 : Int32) := by decide
      have n1 : ¬ nI 4 = (1 : Int32) := by decide
      have n2 : ¬ nI 4 = (2 : Int32) := by decide
      have n3 : ¬ nI 4 = (3 : Int32) := by decide
      have n5 : ¬ nI 4 = (5 : Int32) := by decide
      have n6 : ¬ nI 4 = (6 : Int32) := by decide
      have n7 : ¬ nI 4 = (7 : Int32) := by decide
      have n8 : ¬ nI 4 = (8 : Int32) := by decide
      have n9 : ¬ nI 4 = (9 : Int32) := by decide
      have n10 : ¬ nI 4 = (10 : Int32) := by decide
      have n11 : ¬ nI 4 = (11 : Int32) := by decide
      have n4 : nI 4 = (4 : Int32) := rfl
      have k1 := p_total hP (fu := fu) (by omega) (nI 3) (fun k => s (14 + 6 * 3 + k)) (tot 3 (by omega))
      have k2 := p_together hP (fu := fu) (by omega) (nI 4) (fun k => s (14 + 6 * 3 + k)) (fun k _ => .inr (.inr ⟨0, by omega, rfl, rfl⟩))
      exact ⟨_, by rw [f_X0_numberOfAccount, if_neg n0, if_neg n1, if_neg n2, if_neg n3, if_pos n4]; exact y_xb1 k1, by rw [f_X8_account, if_neg n0, if_neg n1, if_neg n2, if_neg n3, if_neg n8, if_neg n9, if_neg n10, (show f_X8_in (nI 4) 4 7 = some 1 by decide), xb1_s, if_neg y_o, k2, xb1_s]⟩
    · have n0 : ¬ nI 5 = (0 : Int32) := by decide
      have n1 : ¬ nI 5 = (1 : Int32) := by decide
      have n2 : ¬ nI 5 = (2 : Int32) := by decide
      have n3 : ¬ nI 5 = (3 : Int32) := by decide
      have n4 : ¬ nI 5 = (4 : Int32) := by decide
      have n6 : ¬ nI 5 = (6 : Int32) := by decide
      have n7 : ¬ nI 5 = (7 : Int32) := by decide
      have n8 : ¬ nI 5 = (8 : Int32) := by decide
      have n9 : ¬ nI 5 = (9 : Int32) := by decide
      have n10 : ¬ nI 5 = (10 : Int32) := by decide
      have n11 : ¬ nI 5 = (11 : Int32) := by decide
      have n5 : nI 5 = (5 : Int32) := rfl
      have k1 := p_total hP (fu := fu) (by omega) (nI 4) (fun k => s (14 + 6 * 4 + k)) (tot 4 (by omega))
      have k2 := p_together hP (fu := fu) (by omega) (nI 5) (fun k => s (14 + 6 * 4 + k)) (fun k _ => .inr (.inr ⟨1, by omega, rfl, rfl⟩))
      exact ⟨_, by rw [f_X0_numberOfAccount, if_neg n0, if_neg n1, if_neg n2, if_neg n3, if_neg n4, if_pos n5]; exact y_xb1 k1, by rw [f_X8_account, if_neg n0, if_neg n1, if_neg n2, if_neg n3, if_neg n8, if_neg n9, if_neg n10, (show f_X8_in (nI 5) 4 7 = some 1 by decide), xb1_s, if_neg y_o, k2, xb1_s]⟩
    · have n0 : ¬ nI 6 = (0 : Int32) := by decide
      have n1 : ¬ nI 6 = (1 : Int32) := by decide
      have n2 : ¬ nI 6 = (2 : Int32) := by decide
      have n3 : ¬ nI 6 = (3 : Int32) := by decide
      have n4 : ¬ nI 6 = (4 : Int32) := by decide
      have n5 : ¬ nI 6 = (5 : Int32) := by decide
      have n7 : ¬ nI 6 = (7 : Int32) := by decide
      have n8 : ¬ nI 6 = (8 : Int32) := by decide
      have n9 : ¬ nI 6 = (9 : Int32) := by decide
      have n10 : ¬ nI 6 = (10 : Int32) := by decide
      have n11 : ¬ nI 6 = (11 : Int32) := by decide
      have n6 : nI 6 = (6 : Int32) := rfl
      have k1 := p_total hP (fu := fu) (by omega) (nI 5) (fun k => s (14 + 6 * 5 + k)) (tot 5 (by omega))
      have k2 := p_together hP (fu := fu) (by omega) (nI 6) (fun k => s (14 + 6 * 5 + k)) (fun k _ => .inr (.inr ⟨2, by omega, rfl, rfl⟩))
      exact ⟨_, by rw [f_X0_numberOfAccount, if_neg n0, if_neg n1, if_neg n2, if_neg n3, if_neg n4, if_neg n5, if_pos n6]; exact y_xb1 k1, by rw [f_X8_account, if_neg n0, if_neg n1, if_neg n2, if_neg n3, if_neg n8, if_neg n9, if_neg n10, (show f_X8_in (nI 6) 4 7 = some 1 by decide), xb1_s, if_neg y_o, k2, xb1_s]⟩
    · have n0 : ¬ nI 7 = (0 : Int32) := by decide
      have n1 : ¬ nI 7 = (1 : Int32) := by decide
      have n2 : ¬ nI 7 = (2 : Int32) := by decide
      have n3 : ¬ nI 7 = (3 : Int32) := by decide
      have n4 : ¬ nI 7 = (4 : Int32) := by decide
      have n5 : ¬ nI 7 = (5 : Int32) := by decide
      have n6 : ¬ nI 7 = (6 : Int32) := by decide
      have n8 : ¬ nI 7 = (8 : Int32) := by decide
      have n9 : ¬ nI 7 = (9 : Int32) := by decide
      have n10 : ¬ nI 7 = (10 : Int32) := by decide
      have n11 : ¬ nI 7 = (11 : Int32) := by decide
      have n7 : nI 7 = (7 : Int32) := rfl
      have k1 := p_total hP (fu := fu) (by omega) (nI 6) (fun k => P.2.2.2.2.1 k - P.2.2.2.2.2.1 k - P.2.2.2.2.2.2 k) (fun k hk => by
        obtain ⟨v, e1, e2⟩ := p_row6 hP hk
        rw [(p_held hP hk).2] at e2
        exact e1.trans e2.symm)
      have k2 := p_together hP (fu := fu) (by omega) (nI 7) (fun k => P.2.2.2.2.1 k - P.2.2.2.2.2.1 k - P.2.2.2.2.2.2 k) (fun k hk => .inl ⟨rfl, (p_held hP hk).2⟩)
      exact ⟨_, by rw [f_X0_numberOfAccount, if_neg n0, if_neg n1, if_neg n2, if_neg n3, if_neg n4, if_neg n5, if_neg n6, if_pos n7]; exact y_xb1 k1, by rw [f_X8_account, if_neg n0, if_neg n1, if_neg n2, if_neg n3, if_neg n8, if_neg n9, if_neg n10, (show f_X8_in (nI 7) 4 7 = some 1 by decide), xb1_s, if_neg y_o, k2, xb1_s]⟩
    · have n0 : ¬ nI 8 = (0 : Int32) := by decide
      have n1 : ¬ nI 8 = (1 : Int32) := by decide
      have n2 : ¬ nI 8 = (2 : Int32) := by decide
      have n3 : ¬ nI 8 = (3 : Int32) := by decide
      have n4 : ¬ nI 8 = (4 : Int32) := by decide
      have n5 : ¬ nI 8 = (5 : Int32) := by decide
      have n6 : ¬ nI 8 = (6 : Int32) := by decide
      have n7 : ¬ nI 8 = (7 : Int32) := by decide
      have n9 : ¬ nI 8 = (9 : Int32) := by decide
      have n10 : ¬ nI 8 = (10 : Int32) := by decide
      have n11 : ¬ nI 8 = (11 : Int32) := by decide
      have n8 : nI 8 = (8 : Int32) := rfl
      exact ⟨lN dn, by rw [f_X0_numberOfAccount, if_neg n0, if_neg n1, if_neg n2, if_neg n3, if_neg n4, if_neg n5, if_neg n6, if_neg n7, if_pos n8, nI_l (by omega)], by rw [f_X8_account, if_neg n0, if_neg n1, if_neg n2, if_neg n3, if_pos n8, y_xk i0, y_c0, g5]⟩
    · have n0 : ¬ nI 9 = (0 : Int32) := by decide
      have n1 : ¬ nI 9 = (1 : Int32) := by decide
      have n2 : ¬ nI 9 = (2 : Int32) := by decide
      have n3 : ¬ nI 9 = (3 : Int32) := by decide
      have n4 : ¬ nI 9 = (4 : Int32) := by decide
      have n5 : ¬ nI 9 = (5 : Int32) := by decide
      have n6 : ¬ nI 9 = (6 : Int32) := by decide
      have n7 : ¬ nI 9 = (7 : Int32) := by decide
      have n8 : ¬ nI 9 = (8 : Int32) := by decide
      have n10 : ¬ nI 9 = (10 : Int32) := by decide
      have n11 : ¬ nI 9 = (11 : Int32) := by decide
      have n9 : nI 9 = (9 : Int32) := rfl
      exact ⟨lN gn, by rw [f_X0_numberOfAccount, if_neg n0, if_neg n1, if_neg n2, if_neg n3, if_neg n4, if_neg n5, if_neg n6, if_neg n7, if_neg n8, if_pos n9, nI_l (by omega)], by rw [f_X8_account, if_neg n0, if_neg n1, if_neg n2, if_neg n3, if_neg n8, if_pos n9, y_xk i1, l1, g6]⟩
    · have n0 : ¬ nI 10 = (0 : Int32) := by decide
      have n1 : ¬ nI 10 = (1 : Int32) := by decide
      have n2 : ¬ nI 10 = (2 : Int32) := by decide
      have n3 : ¬ nI 10 = (3 : Int32) := by decide
      have n4 : ¬ nI 10 = (4 : Int32) := by decide
      have n5 : ¬ nI 10 = (5 : Int32) := by decide
      have n6 : ¬ nI 10 = (6 : Int32) := by decide
      have n7 : ¬ nI 10 = (7 : Int32) := by decide
      have n8 : ¬ nI 10 = (8 : Int32) := by decide
      have n9 : ¬ nI 10 = (9 : Int32) := by decide
      have n11 : ¬ nI 10 = (11 : Int32) := by decide
      have n10 : nI 10 = (10 : Int32) := rfl
      obtain ⟨S, k1, k2⟩ := c_allLeft hC vC (fu := fu) (by omega)
      exact ⟨S, by rw [f_X0_numberOfAccount, if_neg n0, if_neg n1, if_neg n2, if_neg n3, if_neg n4, if_neg n5, if_neg n6, if_neg n7, if_neg n8, if_neg n9, if_pos n10, k1, xb1_s], by rw [f_X8_account, if_neg n0, if_neg n1, if_neg n2, if_neg n3, if_neg n8, if_neg n9, if_pos n10, k2, xb1_s]⟩
    · have n0 : ¬ nI 11 = (0 : Int32) := by decide
      have n1 : ¬ nI 11 = (1 : Int32) := by decide
      have n2 : ¬ nI 11 = (2 : Int32) := by decide
      have n3 : ¬ nI 11 = (3 : Int32) := by decide
      have n4 : ¬ nI 11 = (4 : Int32) := by decide
      have n5 : ¬ nI 11 = (5 : Int32) := by decide
      have n6 : ¬ nI 11 = (6 : Int32) := by decide
      have n7 : ¬ nI 11 = (7 : Int32) := by decide
      have n8 : ¬ nI 11 = (8 : Int32) := by decide
      have n9 : ¬ nI 11 = (9 : Int32) := by decide
      have n10 : ¬ nI 11 = (10 : Int32) := by decide
      have n11 : nI 11 = (11 : Int32) := rfl
      have k1 := p_total hP (fu := fu) (by omega) (nI 8) (fun k => xmaxL 0 (P.2.2.2.1 k - P.2.2.2.2.1 k)) (fun k hk => by
        obtain ⟨v, e1, e2⟩ := p_row8 hP (by omega) vP hk
        rw [(p_short hP (by omega) vP hk).2] at e2
        exact e1.trans e2.symm)
      have k2 := p_together hP (fu := fu) (by omega) (nI 11) (fun k => xmaxL 0 (P.2.2.2.1 k - P.2.2.2.2.1 k)) (fun k hk => .inr (.inl ⟨rfl, (p_short hP (by omega) vP hk).2⟩))
      exact ⟨_, by rw [f_X0_numberOfAccount, if_neg n0, if_neg n1, if_neg n2, if_neg n3, if_neg n4, if_neg n5, if_neg n6, if_neg n7, if_neg n8, if_neg n9, if_neg n10]; exact y_xb1 k1, by rw [f_X8_account, if_neg n0, if_neg n1, if_neg n2, if_neg n3, if_neg n8, if_neg n9, if_neg n10, (show f_X8_in (nI 11) 4 7 = some 0 by decide), xb1_s, if_pos rfl, if_pos n11, k2, xb1_s]⟩
  obtain ⟨v, k1, hy⟩ := key
  have hx : f_X7_account fu a1 P C D d g = some (0, v) := by rw [f_X7_account, w2, xb1_s, if_neg y_o, k1, xb1_s]
  exact ⟨0, vp_updL o 0 v, z_30 (k := 0) (by rw [f_L_account, hx, xb2_s, if_pos rfl, y_xk y_i01, y_c0]) hy rfl (fun _ => y_us _ _ _)⟩
theorem s_24 {K : Int} (hK0 : 0 ≤ K) (hK : K ≤ 17920) {P : sPar} {C : sCla} {D : sDeb} {J : sJou} {r t : xF32} {d g : Int32} {s : xF64} (h : RA K (P, C, D, J, r, t, d, g) s) {fu : Nat} (hfu : 70000 < fu) (a1 F0 : Int32) (G0 : Int32) (G1 G2 F12 : xF32) (o : xF64) : ∃ G0' G1' G2' F0' F12' o', f_C_24 fu a1 D G0 G1 G2 F0 s F12 o = some (G0', G1', G2', F0', F12', o') := by
  obtain ⟨n, c, m, j, dn, gn, hP, vP, hC, vC, hD, v1, v2, v3, hJ, h0⟩ := h.get
  have hn := hP.1
  have hc := hC.1
  have hm := hD.1
  have hpr := y_prb hK0 hK hn vP v1 v3
  obtain ⟨g0, G1', G2', f1, f2⟩ := r_find (fu := fu) (by omega) hm hD.2.1 hn v1 G0 G1 G2
  obtain ⟨x3, ring', e1, e2⟩ := h_find hfu (d_HO hP hD v1 (by omega) v2 hpr (by omega)) F12
  have bad : ∀ z, (a1 < 0 ∨ ¬ a1 < g0) → f_X8_in a1 0 (x3 - 1) = some 0 → ∃ G0' G1' G2' F0' F12' o', f_C_24 fu a1 D G0 G1 G2 F0 s F12 z = some (G0', G1', G2', F0', F12', o') := fun z hz hi => by
    have hx : f_X7_ring fu a1 D G0 G1 G2 = some (5, 0, g0, G1', G2') := by
      rw [f_X7_ring, f1, xb3_s]
      by_cases c0 : a1 < 0
      · rw [if_pos c0]
      · rw [if_neg c0, if_neg (hz.resolve_left c0)]
    have hy : f_X8_ring fu a1 F0 s F12 = some (0, 1, ring') := by rw [f_X8_ring, e1, xb2_s, hi, xb1_s, if_pos rfl, f_X8_fails, xb2_s]
    exact ⟨g0, G1', G2', 1, ring', z, z_24 (k := 1) (by rw [f_L_ring, hx, xb5_s]; rfl) hy rfl (fun q => absurd q (by decide))⟩
  rcases f2 with ⟨f2, rfl⟩ | ⟨q, rw', f2, rfl, f3⟩
  · have hx3 : x3 = 0 := by
      rcases e2 with ⟨-, e2⟩ | ⟨q, r', e2, -⟩
      · exact e2
      · rw [f2] at e2; cases e2
    subst hx3
    refine bad o ?_ ?_
    · by_cases c0 : a1 < 0
      · exact .inl c0
      · exact .inr c0
    · obtain ⟨v, u1, u2, u3, u4⟩ := y_in3 a1 0 (0 - 1)
      rcases u4 with ⟨rfl, -⟩ | ⟨-, u5, u6⟩
      · exact u1
      · have u5' : 0 ≤ a1.toInt := u5
        have u6' : a1.toInt ≤ -1 := u6
        omega
  · obtain ⟨q2, q6, hv⟩ := yfr_val f2
    have hR : x3 = nI q ∧ ∀ k, k < q → ring' k = nI (rw' k) := by
      rcases e2 with ⟨e2, -⟩ | ⟨q', r', e2, e3, e4⟩
      · rw [f2] at e2; cases e2
      · rw [f2] at e2; cases e2; exact ⟨e3, e4⟩
    obtain ⟨rfl, hR⟩ := hR
    rcases pk_ix a1 (n := q) (by omega) with h1 | h1 | ⟨i, hi, rfl⟩
    · refine bad o (.inl h1) ?_
      rw [f_X8_in, if_pos h1]
    · refine bad o (.inr (fun z => ?_)) ?_
      · rw [y_lt32] at z; rw [y_le32] at h1; omega
      · have hz : ¬ a1 < 0 := by
          rw [y_le32, nI_toInt (by omega)] at h1
          rw [y_lt32]
          have : (0 : Int32).toInt = 0 := rfl
          omega
        have hz2 : nI q - 1 < a1 := by
          rw [y_m1 (by omega), y_lt32, nI_toInt (by omega)]
          rw [y_le32, nI_toInt (by omega)] at h1
          omega
        rw [f_X8_in, if_neg hz, if_pos hz2]
    · have h0 : ¬ nI i < 0 := nI_pos (by omega)
      have h1 : nI i < nI q := nI_lt hi (by omega)
      have hin : f_X8_in (nI i) 0 (nI q - 1) = some 1 := by
        have : ¬ nI q - 1 < nI i := by rw [y_m1 (by omega)]; exact nI_nlt (by omega) (by omega)
        rw [f_X8_in, if_neg h0, if_neg this]
      have x6 : xin (nI i) 6 = true := y_in (by omega) (by omega)
      have hx : f_X7_ring fu (nI i) D G0 G1 G2 = some (0, nI (rw' i), nI q, G1', G2') := by
        rw [f_X7_ring, f1, xb3_s, if_neg h0, if_pos h1, y_xk x6, y_cl (by omega), f3 i hi]
      have hy : f_X8_ring fu (nI i) F0 s F12 = some (nI (rw' i), 0, ring') := by rw [f_X8_ring, e1, xb2_s, hin, xb1_s, if_neg y_o, y_xk x6, y_cl (by omega), hR i hi]
      exact ⟨_, G1', G2', 0, ring', vp_updL o 0 (nI (rw' i)).toInt64, z_24 (k := 0) (by rw [f_L_ring, hx, xb5_s, if_pos rfl, y_xk y_i01, y_c0]) hy rfl (fun _ => y_us _ _ _)⟩
