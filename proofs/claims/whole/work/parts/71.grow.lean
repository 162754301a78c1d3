-- the days until a debt has grown so far
theorem g_v {O A u : Int64} {x2 : Int32} (u0 : 0 ≤ u.toInt) (u1 : u.toInt < 3600000) (hA : 0 < A.toInt) (hA2 : A.toInt ≤ 8000000000000000) (hO : 0 ≤ O.toInt) (hx : O.toInt < x2.toInt) (hx2 : x2.toInt ≤ 1000000000) : 0 ≤ (((x2.toInt64 - O) * 3600000 - u + A - 1) / A).toInt ∧ ∀ d : Nat, (((x2.toInt64 - O) * 3600000 - u + A - 1) / A).toInt ≤ (d : Int) ↔ x2.toInt ≤ O.toInt + yG u A d / 3600000 := by
  have ems : (x2.toInt64 - O).toInt = x2.toInt - O.toInt := by rw [y_subL (by rw [y_w]; omega) (by rw [y_w]; omega), y_w]
  have em : ((x2.toInt64 - O) * 3600000).toInt = (x2.toInt - O.toInt) * 3600000 := by
    rw [y_mulL (by rw [ems, y_U]; omega) (by rw [ems, y_U]; omega), ems, y_U]
  have o1 : (1 : Int64).toInt = 1 := rfl
  have e1 : ((x2.toInt64 - O) * 3600000 - u).toInt = (x2.toInt - O.toInt) * 3600000 - u.toInt := by
    rw [y_subL (by rw [em]; omega) (by rw [em]; omega), em]
  have e2 : ((x2.toInt64 - O) * 3600000 - u + A).toInt = (x2.toInt - O.toInt) * 3600000 - u.toInt + A.toInt := by
    rw [y_addL (by rw [e1]; omega) (by rw [e1]; omega), e1]
  have e3 : ((x2.toInt64 - O) * 3600000 - u + A - 1).toInt = (x2.toInt - O.toInt) * 3600000 - u.toInt + A.toInt - 1 := by
    rw [y_subL (by rw [e2, o1]; omega) (by rw [e2, o1]; omega), e2, o1]
  have e4 : (((x2.toInt64 - O) * 3600000 - u + A - 1) / A).toInt = ((x2.toInt - O.toInt) * 3600000 - u.toInt + A.toInt - 1) / A.toInt := by
    rw [y_divL (by rw [e3]; omega) hA, e3]
  rw [e4]
  refine ⟨Int.ediv_nonneg (by omega) (by omega), fun d => ?_⟩
  rw [y_ceil hA]
  have : yG u A d = u.toInt + A.toInt * (d : Int) := rfl
  rw [this, Int.mul_comm (d : Int)]
  exact y_hit _ _ _ _
theorem g_run {fu : Nat} (hfu : 4000 < fu) {s : xF64} {O A u : Int64} (ok : yOk u A) (hO : 0 ≤ O.toInt) (hO2 : O.toInt ≤ 4000000000000000000) {x2 : Int32} {v : Int64} (hv0 : 0 ≤ v.toInt) (hit : ∀ d : Nat, d ≤ 3650 → (v.toInt ≤ (d : Int) ↔ x2.toInt ≤ O.toInt + yG u A d / 3600000)) (z : Int32) : (v ≤ 3650 ∧ f_X8_growsTo_86 fu s fu x2 u O A 0 z = some (v.toInt32, z)) ∨ (¬ v ≤ 3650 ∧ f_X8_growsTo_86 fu s fu x2 u O A 0 z = some (0, 3)) := by
  obtain ⟨z0, z1⟩ := y_d0 ok
  have hO0 : O + 0 = O := Int64.add_zero O
  have n0 : nI 0 = 0 := rfl
  have e36 : (3650 : Int64).toInt = 3650 := rfl
  by_cases c : v.toInt ≤ 3650
  · obtain ⟨V, hV⟩ : ∃ V : Nat, v.toInt = (V : Int) := ⟨v.toInt.toNat, by omega⟩
    have hV2 : V ≤ 3650 := by omega
    have g := g_hit (fu := fu) (s := s) ok hO hO2 (x2 := x2) hV2 (fun d hd => by
      have hc : ¬ v.toInt ≤ (d : Int) := by omega
      exact Int.not_le.mp (fun q => hc ((hit d (Nat.le_trans (Nat.le_of_lt hd) hV2)).mpr q))) ((hit V hV2).mp (Int.le_of_eq hV)) z V 0 fu (Nat.zero_add V) (by omega)
    rw [z0, z1, hO0, n0] at g
    have ev : nI V = v.toInt32 := by
      have hvl : v = lN V := by
        rw [y_eq64, lN_toInt (by omega)]
        exact hV
      rw [hvl, lN_i]
    exact .inl ⟨by rw [y_le64, e36]; exact c, by rw [← ev]; exact g⟩
  · have g := g_none (fu := fu) (s := s) ok hO hO2 (x2 := x2) (fun d hd => by
      have hc : ¬ v.toInt ≤ (d : Int) := by omega
      exact Int.not_le.mp (fun q => hc ((hit d hd).mpr q))) z 3651 0 fu (by omega) (by omega)
    rw [z0, z1, hO0, n0] at g
    exact .inr ⟨by rw [y_le64, e36]; exact c, g⟩
theorem d_grows {n : Nat} {D : sDeb} {s : xF64} (h : RD n D s) {K : Int} (hK : K ≤ 20000) (v2 : VD2 K n D) {i : Nat} (hi : i < n) (hpr : (D.2.2.2.1 i).toInt ≤ 3584100000000) {rt : Int32} (hr0 : 0 ≤ rt.toInt) (hr : rt.toInt ≤ 2000) {x2 : Int32} (hx : 1 ≤ x2.toInt) (hx2 : x2.toInt ≤ 1000000000) : ∃ v, f_X2_daysUntil (nI i) x2.toInt64 rt D = some v ∧ 0 ≤ v.toInt ∧ yOk (D.2.2.2.2.2 i) (D.2.2.2.1 i * rt.toInt64) ∧ 0 ≤ (D.2.2.2.1 i + D.2.2.2.2.1 i).toInt ∧ (D.2.2.2.1 i + D.2.2.2.2.1 i).toInt ≤ 4000000000000000000 ∧ ∀ d : Nat, d ≤ 3650 → (v.toInt ≤ (d : Int) ↔ x2.toInt ≤ (D.2.2.2.1 i + D.2.2.2.2.1 i).toInt + yG (D.2.2.2.2.2 i) (D.2.2.2.1 i * rt.toInt64) d / 3600000) := by
  have hn := h.1
  obtain ⟨b1, b2, b3, b4, b5, b6⟩ := v2 i hi
  have g1 : 0 ≤ (D.2.2.2.1 i).toInt * rt.toInt := Int.mul_nonneg b1 hr0
  have g2 : (D.2.2.2.1 i).toInt * rt.toInt ≤ 3584100000000 * 2000 := Int.mul_le_mul hpr hr hr0 (by omega)
  have eA : (D.2.2.2.1 i * rt.toInt64).toInt = (D.2.2.2.1 i).toInt * rt.toInt := by
    rw [y_mulL (by rw [y_w]; omega) (by rw [y_w]; omega), y_w]
  have eo : (D.2.2.2.1 i + D.2.2.2.2.1 i).toInt = (D.2.2.2.1 i).toInt + (D.2.2.2.2.1 i).toInt := y_addL (by omega) (by omega)
  have x0 : xin (nI i) 30 = true := y_in (by omega) (by omega)
  have x1 : (nI i).toNatClampNeg = i := y_cl (by omega)
  have hda := (d_amt h hi).1
  have ok : yOk (D.2.2.2.2.2 i) (D.2.2.2.1 i * rt.toInt64) := ⟨b5, b6, by omega, by omega⟩
  have hO0 : 0 ≤ (D.2.2.2.1 i + D.2.2.2.2.1 i).toInt := by omega
  have hO1 : (D.2.2.2.1 i + D.2.2.2.2.1 i).toInt ≤ 4000000000000000000 := by omega
  have hdu : f_X2_daysUntil (nI i) x2.toInt64 rt D = (if 0 < (x2.toInt64 - (D.2.2.2.1 i + D.2.2.2.2.1 i)) then (if 0 < (D.2.2.2.1 i * rt.toInt64) then (xk (xnzl (D.2.2.2.1 i * rt.toInt64)) (some ((x2.toInt64 - (D.2.2.2.1 i + D.2.2.2.2.1 i)) * 3600000 - D.2.2.2.2.2 i + D.2.2.2.1 i * rt.toInt64 - 1) |>.map fun q => q / (D.2.2.2.1 i * rt.toInt64))) else some 3651) else some 0) := by
    rw [f_X2_daysUntil, hda, xb1_s, x0, xk_t, x1]
    rfl
  have hu0 : 0 ≤ (D.2.2.2.2.2 i).toInt := b5
  have hu1 : (D.2.2.2.2.2 i).toInt < 3600000 := b6
  have hA1 := ok.2.2.1
  have hA2 := ok.2.2.2
  clear hda x0 x1 eo eA g1 g2 b1 b2 b3 b4 b5 b6 hpr v2 h
  generalize D.2.2.2.1 i * rt.toInt64 = A at *
  generalize D.2.2.2.1 i + D.2.2.2.2.1 i = O at *
  generalize D.2.2.2.2.2 i = u at *
  have ems : (x2.toInt64 - O).toInt = x2.toInt - O.toInt := by rw [y_subL (by rw [y_w]; omega) (by rw [y_w]; omega), y_w]
  have cmi : 0 < x2.toInt64 - O ↔ O.toInt < x2.toInt := by
    rw [y_lt64, y_z, ems]
    omega
  have cai : 0 < A ↔ 0 < A.toInt := by rw [y_lt64, y_z]
  by_cases cm : O.toInt < x2.toInt
  · by_cases ca : 0 < A.toInt
    · have en : xnzl A = true := y_nzl (fun q => by rw [q] at ca; exact absurd ca (by decide))
      obtain ⟨r1, r2⟩ := g_v (x2 := x2) hu0 hu1 ca (by omega) hO0 cm hx2
      refine ⟨_, ?_, r1, ok, hO0, hO1, fun d _ => r2 d⟩
      rw [hdu, if_pos (cmi.mpr cm), if_pos (cai.mpr ca), y_xk en]
      rfl
    · refine ⟨3651, by rw [hdu, if_pos (cmi.mpr cm), if_neg (fun q => ca (cai.mp q))], by decide, ok, hO0, hO1, fun d hd => ?_⟩
      have e : yG u A d = u.toInt := by
        have ca' : A.toInt = 0 := by omega
        show u.toInt + A.toInt * (d : Int) = u.toInt
        rw [ca', Int.zero_mul, Int.add_zero]
      have e2 : (3651 : Int64).toInt = 3651 := rfl
      rw [e, Int.ediv_eq_zero_of_lt hu0 hu1, e2]
      omega
  · refine ⟨0, by rw [hdu, if_neg (fun q => cm (cmi.mp q))], by decide, ok, hO0, hO1, fun d hd => ?_⟩
    have gb := y_gb ok (d := d) (by omega)
    have hq := Int.ediv_nonneg gb.1 (show (0 : Int) ≤ 3600000 by decide)
    have e2 : (0 : Int64).toInt = 0 := rfl
    rw [e2]
    generalize yG u A d / 3600000 = Q at hq ⊢
    omega
theorem s_27 {K : Int} (hK0 : 0 ≤ K) (hK : K ≤ 17920) {P : sPar} {C : sCla} {D : sDeb} {J : sJou} {r t : xF32} {d g : Int32} {s : xF64} (h : RA K (P, C, D, J, r, t, d, g) s) {fu : Nat} (hfu : 70000 < fu) (a1 a2 F0 : Int32) (o : xF64) : ∃ F0' o', f_C_27 fu a1 a2 D r g F0 s o = some (F0', o') := by
  obtain ⟨n, c, m, j, dn, gn, hP, vP, hC, vC, hD, v1, v2, v3, hJ, h0⟩ := h.get
  have hn := hP.1
  have hm := hD.1
  have o1 : ¬ (1 : Int32) = 0 := by decide
  obtain ⟨b, b1, b2, b3⟩ := d_has hD a1
  rcases b3 with rfl | ⟨rfl, i, hi, rfl⟩
  · have hx : f_X7_growsTo a1 a2 D r g = some (1, 0) := by rw [f_X7_growsTo, b1, xb1_s, if_pos rfl]
    have hy : f_X8_growsTo fu a1 a2 F0 s = some (0, 1) := by rw [f_X8_growsTo, b2, xb1_s, if_pos rfl, f_X8_fails, xb2_s]
    exact ⟨1, o, z_27 (k := 1) (by rw [f_L_growsTo, hx, xb2_s]; rfl) hy rfl (fun q => absurd q (by decide))⟩
  obtain ⟨v', w1, w2, w3, w4⟩ := y_in3 a2 1 1000000000
  rcases w4 with ⟨rfl, -⟩ | ⟨rfl, w4, w5⟩
  · have hx : f_X7_growsTo (nI i) a2 D r g = some (2, 0) := by rw [f_X7_growsTo, b1, xb1_s, if_neg o1, w2, xb1_s, if_pos rfl]
    have hy : f_X8_growsTo fu (nI i) a2 F0 s = some (0, 2) := by rw [f_X8_growsTo, b2, xb1_s, if_neg o1, w1, xb1_s, if_pos rfl, f_X8_fails, xb2_s]
    exact ⟨2, o, z_27 (k := 2) (by rw [f_L_growsTo, hx, xb2_s]; rfl) hy rfl (fun q => absurd q (by decide))⟩
  obtain ⟨g1, g2, rfl, rfl, g5, g6, g7⟩ := h0
  obtain ⟨t1, t2, t3, t4, t5, t6⟩ := g7 gn (by omega)
  have hpr := y_prb hK0 hK hn vP v1 v3
  obtain ⟨v, k1, k2, k3, k4, k5, k6⟩ := d_grows hD (by omega) v2 hi (hpr i hi) t3 t4 w4 w5
  have hgx : xin (nI gn) 4 = true := y_in (by omega) (by omega)
  have hgy : (nI gn).toNatClampNeg = gn := y_cl (by omega)
  obtain ⟨m1, m2, m3, m4, m5⟩ := hD.2.2.2 i hi
  have ow := (d_amt hD hi).2
  have i1 : xin 1 304 = true := by decide
  have l1 : (1 : Int32).toNatClampNeg = 1 := rfl
  have ea : ∀ w : Nat, f_X8_debtAt (nI i) (nI w) = some (nI (122 + 5 * i + w)) := fun w => by
    rw [f_X8_debtAt, q5, q122, pk_mul, nI_add, nI_add]
  have ea4 : f_X8_debtAt (nI i) 4 = some (nI (122 + 5 * i + 4)) := ea 4
  have ea2 : f_X8_debtAt (nI i) 2 = some (nI (122 + 5 * i + 2)) := ea 2
  have es : 6 + (s 1).toInt32 = nI (6 + gn) := by rw [g6, lN_i, q6, nI_add]
  have hy : f_X8_growsTo fu (nI i) a2 F0 s = f_X8_growsTo_86 fu s fu a2 (D.2.2.2.2.2 i) (D.2.2.2.1 i + D.2.2.2.2.1 i) (D.2.2.2.1 i * (r gn).toInt64) 0 0 := by
    rw [f_X8_growsTo, b2, xb1_s, if_neg o1, w1, xb1_s, if_neg o1, ea4, xb1_s, y_xk (y_in (by omega) (by omega)), ow, xb1_s, ea2, xb1_s, y_xk (y_in (by omega) (by omega)), y_xk i1, l1, es, y_xk (y_in (by omega) (by omega)), y_cl (by omega), y_cl (by omega), y_cl (by omega), m3, m5, t1]
  rcases g_run (fu := fu) (by omega) (s := s) k3 k4 k5 k2 k6 0 with ⟨u1, u2⟩ | ⟨u1, u2⟩
  · have hx : f_X7_growsTo (nI i) a2 D r (nI gn) = some (0, v.toInt32) := by
      rw [f_X7_growsTo, b1, xb1_s, if_neg o1, w2, xb1_s, if_neg o1, y_xk hgx, hgy, k1, xb1_s, if_pos u1]
    exact ⟨0, vp_updL o 0 v.toInt32.toInt64, z_27 (k := 0) (by rw [f_L_growsTo, hx, xb2_s, if_pos rfl, y_xk y_i01, y_c0]) (hy.trans u2) rfl (fun _ => y_us _ _ _)⟩
  · have hx : f_X7_growsTo (nI i) a2 D r (nI gn) = some (5, 0) := by
      rw [f_X7_growsTo, b1, xb1_s, if_neg o1, w2, xb1_s, if_neg o1, y_xk hgx, hgy, k1, xb1_s, if_neg u1]
    exact ⟨3, o, z_27 (k := 3) (by rw [f_L_growsTo, hx, xb2_s]; rfl) (hy.trans u2) rfl (fun q => absurd q (by decide))⟩
