-- awards, dismissals, withdrawals
theorem RA.get {K : Int} {P : sPar} {C : sCla} {D : sDeb} {J : sJou} {r t : xF32} {d g : Int32} {s : xF64} (h : RA K (P, C, D, J, r, t, d, g) s) : ∃ n c m j dn gn, RP n P s ∧ VP K n P ∧ RC c C s ∧ VC n c C ∧ RD m D s ∧ VD1 m D n ∧ VD2 K m D ∧ VD3 K m D P ∧ RJ j J s ∧ R0 dn gn r t d g s := h
theorem m_award {K : Int} (hK0 : 0 ≤ K) (hK : K ≤ 17920) {P : sPar} {C : sCla} {D : sDeb} {J : sJou} {r t : xF32} {d g : Int32} {s : xF64} (h : RA K (P, C, D, J, r, t, d, g) s) {fu : Nat} (hfu : 40 < fu) (a1 a2 F7 : Int32) (z : Int64) : ∃ fc oc s' F7' z', f_X0_faultOfRuling a1 a2 C g = some fc ∧ f_X8_deciding fu 1 a1 a2 s F7 z = some (oc, s', F7', z') ∧ ((fc = 7 ∧ oc = 1 ∧ s' = s ∧ F7' = F7) ∨ (fc = 8 ∧ oc = 2 ∧ s' = s ∧ F7' = F7) ∨ ((fc = 1 ∨ fc = 3) ∧ oc = 9 ∧ s' = s ∧ F7' = fc) ∨ (fc = 0 ∧ oc = 0 ∧ F7' = F7 ∧ ∃ C' D' J' L, f_X0_makeAward fu a1 a2 C D J = some (C', D', J') ∧ RA (K + 1) (P, C', D', J', r, t, d, g) s' ∧ f_X1_leftOf a1 C' = some L ∧ z' = L.toInt64)) := by
  obtain ⟨n, c, m, j, dn, gn, hP, vP, hC, vC, hD, v1, v2, v3, hJ, h0⟩ := h.get
  have hn := hP.1
  have hc := hC.1
  have o : ¬ (1 : Int32) = 0 := by decide
  have o3 : ¬ (3 : Int32) ≤ 1 := by decide
  have o13 : ¬ (1 : Int32) = 3 := by decide
  have i1 : xin 1 304 = true := by decide
  have l1 : (1 : Int32).toNatClampNeg = 1 := rfl
  obtain ⟨b, b1, b2, b3⟩ := c_has hC a1
  obtain ⟨g1, g2, rfl, rfl, g5, g6, g7⟩ := h0
  obtain ⟨st1, st2, st3, st4⟩ := z_stage g2
  have hfp : ∀ x3, f_X0_faultOfPart a1 a2 x3 C = (if b = 0 then some 7 else if 1 ≤ a2 then (if x3 = 0 then (xb1 (f_X1_leftOf a1 C) fun v6 => if a2 ≤ v6 then some 0 else some 3) else some x3) else some 8) := fun x3 => by rw [f_X0_faultOfPart, b1, xb1_s]
  have hru : f_X0_faultOfRuling a1 a2 C (nI gn) = f_X0_faultOfPart a1 a2 (if gn = 0 then 1 else 0) C := by
    rw [f_X0_faultOfRuling]
    by_cases q : gn = 0
    · rw [if_pos (st3.mpr q), if_pos q]
      cases f_X0_faultOfPart a1 a2 1 C <;> rfl
    · rw [if_neg (fun w => q (st3.mp w)), if_neg q]
      cases f_X0_faultOfPart a1 a2 0 C <;> rfl
  rw [hru, hfp]
  rcases b3 with rfl | ⟨rfl, i, hi, rfl⟩
  · refine ⟨7, 1, s, F7, z, if_pos rfl, ?_, .inl ⟨rfl, rfl, rfl, rfl⟩⟩
    rw [f_X8_deciding, b2, xb1_s, if_pos rfl]
  rw [if_neg o]
  by_cases ca : 1 ≤ a2
  · rw [if_pos ca]
    by_cases cg : gn = 0
    · rw [if_pos cg, if_neg o]
      refine ⟨1, 9, s, 1, z, rfl, ?_, .inr (.inr (.inl ⟨.inl rfl, rfl, rfl, rfl⟩))⟩
      have e0 : s 1 = 0 := by rw [g6]; exact st1.mpr cg
      rw [f_X8_deciding, b2, xb1_s, if_neg o, if_pos ca, if_neg o3, y_xk i1, l1, if_pos e0, f_X8_refuses, xb2_s]
    · rw [if_neg cg, if_pos rfl]
      have e0 : ¬ s 1 = 0 := by rw [g6]; exact fun q => cg (st1.mp q)
      obtain ⟨L, k1, k2, k3, k4⟩ := c_leftB hC vC hi a2
      rw [k1, xb1_s]
      by_cases cl : a2 ≤ L
      · rw [if_pos cl]
        have cl' := k3.mp cl
        have cs := k4 cl
        have ca' : 1 ≤ a2.toInt := by rw [y_le32] at ca; exact ca
        obtain ⟨⟨a, b, ha, hb, hab, e1, e2⟩, v4, v5, v6, v7, v8⟩ := vC i hi
        obtain ⟨m1, m2, m3, m4, m5, m6⟩ := hC.2.2.2.1 i hi
        have ew : (C.2.2.2.2.1 i + a2).toInt64 = (C.2.2.2.2.1 i).toInt64 + a2.toInt64 := y_wadd (by omega) (by omega)
        have et : (C.2.2.2.2.1 i + a2).toInt = (C.2.2.2.2.1 i).toInt + a2.toInt := y_add (by omega) (by omega)
        obtain ⟨u, hu⟩ : ∃ u : xF64, u = vp_updL s (50 + 6 * i + 3) (C.2.2.2.2.1 i + a2).toInt64 := ⟨_, rfl⟩
        have hC1 := c_set3 hC hi (C.2.2.2.2.1 i + a2)
        rw [← hu] at hC1
        have fu1 : ∀ k, k < 50 ∨ 122 ≤ k → u k = s k := fun k hk => by rw [hu, y_un (by omega)]
        have hD1 : RD m D u := hD.frame (fun k hk => fu1 k (by omega))
        obtain ⟨m', D', s2, d1, d2, d3, d4, d5, d6, d7⟩ := d_owes hD1 hn v1 v2 hK0 (L := K + 1) (by omega) hfu hb ha (Ne.symm hab) a2.toInt64 (by rw [y_w]; exact ca') (β0 := fun x => (P.2.2.2.2.1 x.toNatClampNeg).toInt + K * 100000000) (β1 := fun x => (P.2.2.2.2.1 x.toNatClampNeg).toInt + (K + 1) * 100000000) v3 (fun x => by show _ ≤ _; omega) (by
          show (P.2.2.2.2.1 (nI b).toNatClampNeg).toInt + K * 100000000 + a2.toInt64.toInt ≤ _
          rw [y_w]
          omega) (by
          show 0 ≤ (P.2.2.2.2.1 (nI b).toNatClampNeg).toInt + K * 100000000
          rw [y_cl (by omega)]
          have := (vP b hb).2.2.2.1
          omega) (by
          show (P.2.2.2.2.1 (nI b).toNatClampNeg).toInt + (K + 1) * 100000000 < _
          rw [y_cl (by omega)]
          have := (vP b hb).2.2.2.1
          omega)
        have hJ2 : RJ j J s2 := hJ.frame (fun k hk => by rw [d4 k (by omega) (by omega), fu1 k (by omega)])
        obtain ⟨j', J', s3, j1, j2, j3, j4⟩ := j_add hJ2 hfu 1 a2.toInt64
        have hC3 := hC1.frame (t := s3) (fun k hk => by rw [j4 k (by omega) (by omega), d4 k (by omega) (by omega)])
        have vC3 : VC n c (C.1, C.2.1, C.2.2.1, C.2.2.2.1, upd C.2.2.2.2.1 i (C.2.2.2.2.1 i + a2), C.2.2.2.2.2.1, C.2.2.2.2.2.2) := fun k hk => by
          by_cases e : k = i
          · subst e
            simp only [pk_us]
            exact ⟨⟨a, b, ha, hb, hab, e1, e2⟩, v4, by omega, v6, v7, by omega⟩
          · simp only [pk_un e]
            exact vC k hk
        obtain ⟨L', p1, p2, p3⟩ := c_left hC3 vC3 hi
        have hfr : ∀ k, ¬ (50 ≤ k ∧ k < 122) → k ≠ 4 → ¬ (122 ≤ k ∧ k < 272) → k ≠ 5 → ¬ (272 ≤ k ∧ k < 304) → s3 k = s k := fun k q1 q2 q3 q4 q5 => by
          rw [j4 k q4 q5, d4 k q2 q3, fu1 k (by omega)]
        refine ⟨0, 0, s3, F7, L'.toInt64, rfl, ?_, .inr (.inr (.inr ⟨rfl, rfl, rfl, _, D', J', L', ?_, ⟨n, c, m', j', dn, gn, hP.frame (fun k hk => hfr k (by omega) (by omega) (by omega) (by omega) (by omega)), vP.mono (by omega), hC3, vC3, d3.frame (fun k hk => j4 k (by omega) (by omega)), d5, d6, d7, j3, R0.frame ⟨g1, g2, rfl, rfl, g5, g6, g7⟩ (fun k hk => hfr k (by omega) (by omega) (by omega) (by omega) (by omega))⟩, p1, rfl⟩))⟩
        · have ca3 : f_X8_claimAt (nI i) (2 + 1) = some (nI (50 + 6 * i + 3)) := c_at i 3
          have ca1 : f_X8_claimAt (nI i) 1 = some (nI (50 + 6 * i + 1)) := c_at i 1
          have ca0 : f_X8_claimAt (nI i) 0 = some (nI (50 + 6 * i)) := c_at i 0
          have r1 : u (50 + 6 * i + 1) = (C.2.2.1 i).toInt64 := by rw [hu, y_un (by omega)]; exact m2
          have r0 : u (50 + 6 * i) = (C.2.1 i).toInt64 := by rw [hu, y_un (by omega)]; exact m1
          rw [f_X8_deciding, b2, xb1_s, if_neg o, if_pos ca, if_neg o3, y_xk i1, l1, if_neg e0, if_neg o13, k2, xb1_s, if_pos cl', ca3, xb1_s, y_xk (y_in (by omega) (by omega)), y_xk (y_in (by omega) (by omega)), if_pos rfl, ca1, xb1_s, y_xk (y_in (by omega) (by omega)), ca0, xb1_s, y_xk (y_in (by omega) (by omega)), y_cl (by omega), y_cl (by omega), y_cl (by omega), m4, ← ew, ← hu, r1, r0, y_wn, y_wn, e1, e2, d2, xb1_s, j2, xb1_s, p2, xb1_s]
        · have x12 : xin (nI i) 12 = true := y_in (by omega) (by omega)
          have y12 : (nI i).toNatClampNeg = i := y_cl (by omega)
          rw [f_X0_makeAward, y_xk x12, y_xk x12, y_xk x12, y_xk x12, y12, e1, e2, d1, xb1_s, j1, xb1_s]
      · rw [if_neg cl]
        have cl' : ¬ a2.toInt64 ≤ L.toInt64 := fun q => cl (k3.mpr q)
        refine ⟨3, 9, s, 3, z, rfl, ?_, .inr (.inr (.inl ⟨.inr rfl, rfl, rfl, rfl⟩))⟩
        rw [f_X8_deciding, b2, xb1_s, if_neg o, if_pos ca, if_neg o3, y_xk i1, l1, if_neg e0, if_neg o13, k2, xb1_s, if_neg cl', f_X8_refuses, xb2_s]
  · rw [if_neg ca]
    refine ⟨8, 2, s, F7, z, rfl, ?_, .inr (.inl ⟨rfl, rfl, rfl, rfl⟩)⟩
    rw [f_X8_deciding, b2, xb1_s, if_neg o, if_neg ca]
theorem m_dismiss {K : Int} (hK0 : 0 ≤ K) (hK : K ≤ 17920) {P : sPar} {C : sCla} {D : sDeb} {J : sJou} {r t : xF32} {d g : Int32} {s : xF64} (h : RA K (P, C, D, J, r, t, d, g) s) {fu : Nat} (hfu : 40 < fu) (a1 a2 F7 : Int32) (z : Int64) : ∃ fc oc s' F7' z', f_X0_faultOfRuling a1 a2 C g = some fc ∧ f_X8_deciding fu 2 a1 a2 s F7 z = some (oc, s', F7', z') ∧ ((fc = 7 ∧ oc = 1 ∧ s' = s ∧ F7' = F7) ∨ (fc = 8 ∧ oc = 2 ∧ s' = s ∧ F7' = F7) ∨ ((fc = 1 ∨ fc = 3) ∧ oc = 9 ∧ s' = s ∧ F7' = fc) ∨ (fc = 0 ∧ oc = 0 ∧ F7' = F7 ∧ ∃ C' J' L, f_X0_makeDismissal fu a1 a2 C J = some (C', J') ∧ RA (K + 1) (P, C', D, J', r, t, d, g) s' ∧ f_X1_leftOf a1 C' = some L ∧ z' = L.toInt64)) := by
  obtain ⟨n, c, m, j, dn, gn, hP, vP, hC, vC, hD, v1, v2, v3, hJ, h0⟩ := h.get
  have hn := hP.1
  have hc := hC.1
  have o : ¬ (1 : Int32) = 0 := by decide
  have o2 : ¬ (2 : Int32) = 0 := by decide
  have o3 : ¬ (3 : Int32) ≤ 2 := by decide
  have o23 : ¬ (2 : Int32) = 3 := by decide
  have o21 : ¬ (2 : Int32) = 1 := by decide
  have o31 : ¬ (3 : Int32) = 1 := by decide
  have o33 : (3 : Int32) ≤ 3 := by decide
  have i1 : xin 1 304 = true := by decide
  have l1 : (1 : Int32).toNatClampNeg = 1 := rfl
  obtain ⟨b, b1, b2, b3⟩ := c_has hC a1
  obtain ⟨g1, g2, rfl, rfl, g5, g6, g7⟩ := h0
  obtain ⟨st1, st2, st3, st4⟩ := z_stage g2
  have hfp : ∀ x3, f_X0_faultOfPart a1 a2 x3 C = (if b = 0 then some 7 else if 1 ≤ a2 then (if x3 = 0 then (xb1 (f_X1_leftOf a1 C) fun v6 => if a2 ≤ v6 then some 0 else some 3) else some x3) else some 8) := fun x3 => by rw [f_X0_faultOfPart, b1, xb1_s]
  have hru : f_X0_faultOfRuling a1 a2 C (nI gn) = f_X0_faultOfPart a1 a2 (if gn = 0 then 1 else 0) C := by
    rw [f_X0_faultOfRuling]
    by_cases q : gn = 0
    · rw [if_pos (st3.mpr q), if_pos q]
      cases f_X0_faultOfPart a1 a2 1 C <;> rfl
    · rw [if_neg (fun w => q (st3.mp w)), if_neg q]
      cases f_X0_faultOfPart a1 a2 0 C <;> rfl
  rw [hru, hfp]
  rcases b3 with rfl | ⟨rfl, i, hi, rfl⟩
  · refine ⟨7, 1, s, F7, z, if_pos rfl, ?_, .inl ⟨rfl, rfl, rfl, rfl⟩⟩
    rw [f_X8_deciding, b2, xb1_s, if_pos rfl]
  rw [if_neg o]
  by_cases ca : 1 ≤ a2
  · rw [if_pos ca]
    by_cases cg : gn = 0
    · rw [if_pos cg, if_neg o]
      refine ⟨1, 9, s, 1, z, rfl, ?_, .inr (.inr (.inl ⟨.inl rfl, rfl, rfl, rfl⟩))⟩
      have e0 : s 1 = 0 := by rw [g6]; exact st1.mpr cg
      rw [f_X8_deciding, b2, xb1_s, if_neg o, if_pos ca, if_neg o3, y_xk i1, l1, if_pos e0, f_X8_refuses, xb2_s]
    · rw [if_neg cg, if_pos rfl]
      have e0 : ¬ s 1 = 0 := by rw [g6]; exact fun q => cg (st1.mp q)
      obtain ⟨L, k1, k2, k3, k4⟩ := c_leftB hC vC hi a2
      rw [k1, xb1_s]
      by_cases cl : a2 ≤ L
      · rw [if_pos cl]
        have cl' := k3.mp cl
        have cs := k4 cl
        have ca' : 1 ≤ a2.toInt := by rw [y_le32] at ca; exact ca
        obtain ⟨q0, v4, v5, v6, v7, v8⟩ := vC i hi
        obtain ⟨m1, m2, m3, m4, m5, m6⟩ := hC.2.2.2.1 i hi
        have ew : (C.2.2.2.2.2.1 i + a2).toInt64 = (C.2.2.2.2.2.1 i).toInt64 + a2.toInt64 := y_wadd (by omega) (by omega)
        have et : (C.2.2.2.2.2.1 i + a2).toInt = (C.2.2.2.2.2.1 i).toInt + a2.toInt := y_add (by omega) (by omega)
        obtain ⟨u, hu⟩ : ∃ u : xF64, u = vp_updL s (50 + 6 * i + 4) (C.2.2.2.2.2.1 i + a2).toInt64 := ⟨_, rfl⟩
        have hC1 := c_set4 hC hi (C.2.2.2.2.2.1 i + a2)
        rw [← hu] at hC1
        have fu1 : ∀ k, k < 50 ∨ 122 ≤ k → u k = s k := fun k hk => by rw [hu, y_un (by omega)]
        have hJ2 : RJ j J u := hJ.frame (fun k hk => fu1 k (by omega))
        obtain ⟨j', J', s3, j1, j2, j3, j4⟩ := j_add hJ2 hfu 2 a2.toInt64
        have hC3 := hC1.frame (t := s3) (fun k hk => j4 k (by omega) (by omega))
        have vC3 : VC n c (C.1, C.2.1, C.2.2.1, C.2.2.2.1, C.2.2.2.2.1, upd C.2.2.2.2.2.1 i (C.2.2.2.2.2.1 i + a2), C.2.2.2.2.2.2) := fun k hk => by
          by_cases e : k = i
          · subst e
            simp only [pk_us]
            exact ⟨q0, v4, v5, by omega, v7, by omega⟩
          · simp only [pk_un e]
            exact vC k hk
        obtain ⟨L', p1, p2, p3⟩ := c_left hC3 vC3 hi
        have hfr : ∀ k, ¬ (50 ≤ k ∧ k < 122) → k ≠ 5 → ¬ (272 ≤ k ∧ k < 304) → s3 k = s k := fun k q1 q4 q5 => by
          rw [j4 k q4 q5, fu1 k (by omega)]
        refine ⟨0, 0, s3, F7, L'.toInt64, rfl, ?_, .inr (.inr (.inr ⟨rfl, rfl, rfl, _, J', L', ?_, ⟨n, c, m, j', dn, gn, hP.frame (fun k hk => hfr k (by omega) (by omega) (by omega)), vP.mono (by omega), hC3, vC3, hD.frame (fun k hk => hfr k (by omega) (by omega) (by omega)), v1, v2.mono (by omega), v3.mono (by omega), j3, R0.frame ⟨g1, g2, rfl, rfl, g5, g6, g7⟩ (fun k hk => hfr k (by omega) (by omega) (by omega))⟩, p1, rfl⟩))⟩
        · have ca3 : f_X8_claimAt (nI i) (2 + 2) = some (nI (50 + 6 * i + 4)) := c_at i 4
          rw [f_X8_deciding, b2, xb1_s, if_neg o, if_pos ca, if_neg o3, y_xk i1, l1, if_neg e0, if_neg o23, k2, xb1_s, if_pos cl', ca3, xb1_s, y_xk (y_in (by omega) (by omega)), y_xk (y_in (by omega) (by omega)), if_neg o21, y_cl (by omega), m5, ← ew, ← hu, j2, xb1_s, p2, xb1_s]
        · have x12 : xin (nI i) 12 = true := y_in (by omega) (by omega)
          have y12 : (nI i).toNatClampNeg = i := y_cl (by omega)
          rw [f_X0_makeDismissal, y_xk x12, y_xk x12, y12, j1, xb1_s]
      · rw [if_neg cl]
        have cl' : ¬ a2.toInt64 ≤ L.toInt64 := fun q => cl (k3.mpr q)
        refine ⟨3, 9, s, 3, z, rfl, ?_, .inr (.inr (.inl ⟨.inr rfl, rfl, rfl, rfl⟩))⟩
        rw [f_X8_deciding, b2, xb1_s, if_neg o, if_pos ca, if_neg o3, y_xk i1, l1, if_neg e0, if_neg o23, k2, xb1_s, if_neg cl', f_X8_refuses, xb2_s]
  · rw [if_neg ca]
    refine ⟨8, 2, s, F7, z, rfl, ?_, .inr (.inl ⟨rfl, rfl, rfl, rfl⟩)⟩
    rw [f_X8_deciding, b2, xb1_s, if_neg o, if_neg ca]
theorem m_withdraw {K : Int} (hK0 : 0 ≤ K) (hK : K ≤ 17920) {P : sPar} {C : sCla} {D : sDeb} {J : sJou} {r t : xF32} {d g : Int32} {s : xF64} (h : RA K (P, C, D, J, r, t, d, g) s) {fu : Nat} (hfu : 40 < fu) (a1 a2 F7 : Int32) (z : Int64) : ∃ fc oc s' F7' z', f_X0_faultOfWithdrawal a1 a2 C g = some fc ∧ f_X8_deciding fu 3 a1 a2 s F7 z = some (oc, s', F7', z') ∧ ((fc = 7 ∧ oc = 1 ∧ s' = s ∧ F7' = F7) ∨ (fc = 8 ∧ oc = 2 ∧ s' = s ∧ F7' = F7) ∨ ((fc = 2 ∨ fc = 3) ∧ oc = 9 ∧ s' = s ∧ F7' = fc) ∨ (fc = 0 ∧ oc = 0 ∧ F7' = F7 ∧ ∃ C' J' L, f_X0_makeWithdrawal fu a1 a2 C J = some (C', J') ∧ RA (K + 1) (P, C', D, J', r, t, d, g) s' ∧ f_X1_leftOf a1 C' = some L ∧ z' = L.toInt64)) := by
  obtain ⟨n, c, m, j, dn, gn, hP, vP, hC, vC, hD, v1, v2, v3, hJ, h0⟩ := h.get
  have hn := hP.1
  have hc := hC.1
  have o : ¬ (1 : Int32) = 0 := by decide
  have o2 : ¬ (2 : Int32) = 0 := by decide
  have o3 : ¬ (3 : Int32) ≤ 2 := by decide
  have o23 : ¬ (2 : Int32) = 3 := by decide
  have o21 : ¬ (2 : Int32) = 1 := by decide
  have o31 : ¬ (3 : Int32) = 1 := by decide
  have o33 : (3 : Int32) ≤ 3 := by decide
  have i1 : xin 1 304 = true := by decide
  have l1 : (1 : Int32).toNatClampNeg = 1 := rfl
  obtain ⟨b, b1, b2, b3⟩ := c_has hC a1
  obtain ⟨g1, g2, rfl, rfl, g5, g6, g7⟩ := h0
  obtain ⟨st1, st2, st3, st4⟩ := z_stage g2
  have hfp : ∀ x3, f_X0_faultOfPart a1 a2 x3 C = (if b = 0 then some 7 else if 1 ≤ a2 then (if x3 = 0 then (xb1 (f_X1_leftOf a1 C) fun v6 => if a2 ≤ v6 then some 0 else some 3) else some x3) else some 8) := fun x3 => by rw [f_X0_faultOfPart, b1, xb1_s]
  have hru : f_X0_faultOfWithdrawal a1 a2 C (nI gn) = f_X0_faultOfPart a1 a2 (if gn ≤ 1 then 0 else 2) C := by
    rw [f_X0_faultOfWithdrawal]
    by_cases q : gn ≤ 1
    · rw [if_pos (st4.mpr q), if_pos q]
      cases f_X0_faultOfPart a1 a2 0 C <;> rfl
    · rw [if_neg (fun w => q (st4.mp w)), if_neg q]
      cases f_X0_faultOfPart a1 a2 2 C <;> rfl
  rw [hru, hfp]
  rcases b3 with rfl | ⟨rfl, i, hi, rfl⟩
  · refine ⟨7, 1, s, F7, z, if_pos rfl, ?_, .inl ⟨rfl, rfl, rfl, rfl⟩⟩
    rw [f_X8_deciding, b2, xb1_s, if_pos rfl]
  rw [if_neg o]
  by_cases ca : 1 ≤ a2
  · rw [if_pos ca]
    by_cases cg : ¬ gn ≤ 1
    · rw [if_neg cg, if_neg o2]
      refine ⟨2, 9, s, 2, z, rfl, ?_, .inr (.inr (.inl ⟨.inl rfl, rfl, rfl, rfl⟩))⟩
      have e0 : ¬ s 1 ≤ 1 := by rw [g6]; exact fun q => cg (st2.mp q)
      rw [f_X8_deciding, b2, xb1_s, if_neg o, if_pos ca, if_pos o33, if_pos rfl, y_xk i1, l1, if_neg e0, f_X8_refuses, xb2_s]
    · have cg := Decidable.not_not.mp cg
      rw [if_pos cg, if_pos rfl]
      have e0 : s 1 ≤ 1 := by rw [g6]; exact st2.mpr cg
      obtain ⟨L, k1, k2, k3, k4⟩ := c_leftB hC vC hi a2
      rw [k1, xb1_s]
      by_cases cl : a2 ≤ L
      · rw [if_pos cl]
        have cl' := k3.mp cl
        have cs := k4 cl
        have ca' : 1 ≤ a2.toInt := by rw [y_le32] at ca; exact ca
        obtain ⟨q0, v4, v5, v6, v7, v8⟩ := vC i hi
        obtain ⟨m1, m2, m3, m4, m5, m6⟩ := hC.2.2.2.1 i hi
        have ew : (C.2.2.2.2.2.2 i + a2).toInt64 = (C.2.2.2.2.2.2 i).toInt64 + a2.toInt64 := y_wadd (by omega) (by omega)
        have et : (C.2.2.2.2.2.2 i + a2).toInt = (C.2.2.2.2.2.2 i).toInt + a2.toInt := y_add (by omega) (by omega)
        obtain ⟨u, hu⟩ : ∃ u : xF64, u = vp_updL s (50 + 6 * i + 5) (C.2.2.2.2.2.2 i + a2).toInt64 := ⟨_, rfl⟩
        have hC1 := c_set5 hC hi (C.2.2.2.2.2.2 i + a2)
        rw [← hu] at hC1
        have fu1 : ∀ k, k < 50 ∨ 122 ≤ k → u k = s k := fun k hk => by rw [hu, y_un (by omega)]
        have hJ2 : RJ j J u := hJ.frame (fun k hk => fu1 k (by omega))
        obtain ⟨j', J', s3, j1, j2, j3, j4⟩ := j_add hJ2 hfu 3 a2.toInt64
        have hC3 := hC1.frame (t := s3) (fun k hk => j4 k (by omega) (by omega))
        have vC3 : VC n c (C.1, C.2.1, C.2.2.1, C.2.2.2.1, C.2.2.2.2.1, C.2.2.2.2.2.1, upd C.2.2.2.2.2.2 i (C.2.2.2.2.2.2 i + a2)) := fun k hk => by
          by_cases e : k = i
          · subst e
            simp only [pk_us]
            exact ⟨q0, v4, v5, v6, by omega, by omega⟩
          · simp only [pk_un e]
            exact vC k hk
        obtain ⟨L', p1, p2, p3⟩ := c_left hC3 vC3 hi
        have hfr : ∀ k, ¬ (50 ≤ k ∧ k < 122) → k ≠ 5 → ¬ (272 ≤ k ∧ k < 304) → s3 k = s k := fun k q1 q4 q5 => by
          rw [j4 k q4 q5, fu1 k (by omega)]
        refine ⟨0, 0, s3, F7, L'.toInt64, rfl, ?_, .inr (.inr (.inr ⟨rfl, rfl, rfl, _, J', L', ?_, ⟨n, c, m, j', dn, gn, hP.frame (fun k hk => hfr k (by omega) (by omega) (by omega)), vP.mono (by omega), hC3, vC3, hD.frame (fun k hk => hfr k (by omega) (by omega) (by omega)), v1, v2.mono (by omega), v3.mono (by omega), j3, R0.frame ⟨g1, g2, rfl, rfl, g5, g6, g7⟩ (fun k hk => hfr k (by omega) (by omega) (by omega))⟩, p1, rfl⟩))⟩
        · have ca3 : f_X8_claimAt (nI i) (2 + 3) = some (nI (50 + 6 * i + 5)) := c_at i 5
          rw [f_X8_deciding, b2, xb1_s, if_neg o, if_pos ca, if_pos o33, if_pos rfl, y_xk i1, l1, if_pos e0, k2, xb1_s, if_pos cl', ca3, xb1_s, y_xk (y_in (by omega) (by omega)), y_xk (y_in (by omega) (by omega)), if_neg o31, y_cl (by omega), m6, ← ew, ← hu, j2, xb1_s, p2, xb1_s]
        · have x12 : xin (nI i) 12 = true := y_in (by omega) (by omega)
          have y12 : (nI i).toNatClampNeg = i := y_cl (by omega)
          rw [f_X0_makeWithdrawal, y_xk x12, y_xk x12, y12, j1, xb1_s]
      · rw [if_neg cl]
        have cl' : ¬ a2.toInt64 ≤ L.toInt64 := fun q => cl (k3.mpr q)
        refine ⟨3, 9, s, 3, z, rfl, ?_, .inr (.inr (.inl ⟨.inr rfl, rfl, rfl, rfl⟩))⟩
        rw [f_X8_deciding, b2, xb1_s, if_neg o, if_pos ca, if_pos o33, if_pos rfl, y_xk i1, l1, if_pos e0, k2, xb1_s, if_neg cl', f_X8_refuses, xb2_s]
  · rw [if_neg ca]
    refine ⟨8, 2, s, F7, z, rfl, ?_, .inr (.inl ⟨rfl, rfl, rfl, rfl⟩)⟩
    rw [f_X8_deciding, b2, xb1_s, if_neg o, if_neg ca]
-- payments
theorem m_pay {K : Int} (hK0 : 0 ≤ K) (hK : K ≤ 17920) {P : sPar} {C : sCla} {D : sDeb} {J : sJou} {r t : xF32} {d g : Int32} {s : xF64} (h : RA K (P, C, D, J, r, t, d, g) s) {fu : Nat} (hfu : 40 < fu) (a1 a2 : Int32) (z : Int64) : ∃ fc oc s' z', f_X0_faultOfPayment a1 a2 P = some fc ∧ f_X8_paying fu a1 a2 s z = some (oc, s', z') ∧ ((fc = 7 ∧ oc = 1 ∧ s' = s) ∨ (fc = 8 ∧ oc = 2 ∧ s' = s) ∨ (fc = 0 ∧ oc = 0 ∧ ∃ P' J', f_X0_makePayment fu a1 a2.toInt64 P J = some (P', J') ∧ RA (K + 1) (P', C, D, J', r, t, d, g) s' ∧ f_X4_heldFor a1 P' = some z')) := by
  obtain ⟨n, c, m, j, dn, gn, hP, vP, hC, vC, hD, v1, v2, v3, hJ, h0⟩ := h.get
  have hn := hP.1
  have hc := hC.1
  have o : ¬ (1 : Int32) = 0 := by decide
  obtain ⟨b, b1, b2, b3⟩ := p_has hP a1
  rcases b3 with rfl | ⟨rfl, i, hi, rfl⟩
  · refine ⟨7, 1, s, z, by rw [f_X0_faultOfPayment, b1, xb1_s, if_pos rfl], ?_, .inl ⟨rfl, rfl, rfl⟩⟩
    rw [f_X8_paying, b2, xb1_s, if_pos rfl]
  obtain ⟨v, w1, w2, w3⟩ := y_amount a2
  rcases w3 with rfl | ⟨rfl, w3, w4⟩
  · refine ⟨8, 2, s, z, by rw [f_X0_faultOfPayment, b1, xb1_s, if_neg o, w2, xb1_s, if_pos rfl], ?_, .inr (.inl ⟨rfl, rfl, rfl⟩)⟩
    rw [f_X8_paying, b2, xb1_s, if_neg o, w1, xb1_s, if_pos rfl]
  · obtain ⟨m1, m2, m3, m4, m5, m6⟩ := hP.2.2.2.1 i hi
    obtain ⟨p1, p2, p3, p4, p5, p6, p7⟩ := vP i hi
    have et : (P.2.2.2.2.1 i + a2.toInt64).toInt = (P.2.2.2.2.1 i).toInt + a2.toInt := by rw [y_addL (by rw [y_w]; omega) (by rw [y_w]; omega), y_w]
    obtain ⟨u, hu⟩ : ∃ u : xF64, u = vp_updL s (32 + i) (P.2.2.2.2.1 i + a2.toInt64) := ⟨_, rfl⟩
    have hP1 := p_set32 hP hi (P.2.2.2.2.1 i + a2.toInt64)
    rw [← hu] at hP1
    have fu1 : ∀ k, k < 32 ∨ 38 ≤ k → u k = s k := fun k hk => by rw [hu, y_un (by omega)]
    obtain ⟨j', J', s3, j1, j2, j3, j4⟩ := j_add (hJ.frame (fun k hk => fu1 k (by omega))) hfu 5 a2.toInt64
    have hP3 := hP1.frame (t := s3) (fun k hk => j4 k (by omega) (by omega))
    obtain ⟨q1, q2⟩ := p_held hP3 hi
    have hfr : ∀ k, ¬ (32 ≤ k ∧ k < 38) → k ≠ 5 → ¬ (272 ≤ k ∧ k < 304) → s3 k = s k := fun k k1 k2 k3 => by rw [j4 k k2 k3, fu1 k (by omega)]
    have vP3 : VP (K + 1) n (P.1, P.2.1, P.2.2.1, P.2.2.2.1, vp_updL P.2.2.2.2.1 i (P.2.2.2.2.1 i + a2.toInt64), P.2.2.2.2.2.1, P.2.2.2.2.2.2) := fun k hk => by
      by_cases e : k = i
      · subst e
        simp only [y_us]
        exact ⟨p1, p2, by omega, by omega, p5, p6, by omega⟩
      · simp only [y_un e]
        obtain ⟨r1, r2, r3, r4, r5⟩ := vP k hk
        exact ⟨r1, r2, by omega, by omega, r5⟩
    have v3' : VD3 (K + 1) m D (P.1, P.2.1, P.2.2.1, P.2.2.2.1, vp_updL P.2.2.2.2.1 i (P.2.2.2.2.1 i + a2.toInt64), P.2.2.2.2.2.1, P.2.2.2.2.2.2) := fun k hk => by
      have w := v3 k hk
      show (D.2.2.2.1 k).toInt ≤ (vp_updL P.2.2.2.2.1 i (P.2.2.2.2.1 i + a2.toInt64) (D.2.1 k).toNatClampNeg).toInt + (K + 1) * 100000000
      by_cases e : (D.2.1 k).toNatClampNeg = i
      · rw [e] at w ⊢
        rw [y_us]
        omega
      · rw [y_un e]
        omega
    refine ⟨0, 0, s3, _, by rw [f_X0_faultOfPayment, b1, xb1_s, if_neg o, w2, xb1_s, if_neg o], ?_, .inr (.inr ⟨rfl, rfl, _, J', ?_, ⟨n, c, m, j', dn, gn, hP3, vP3, hC.frame (fun k hk => hfr k (by omega) (by omega) (by omega)), vC, hD.frame (fun k hk => hfr k (by omega) (by omega) (by omega)), v1, v2.mono (by omega), v3', j3, h0.frame (fun k hk => hfr k (by omega) (by omega) (by omega))⟩, q1⟩)⟩
    · have ea : 32 + nI i = nI (32 + i) := nI_add 32 i
      rw [f_X8_paying, b2, xb1_s, if_neg o, w1, xb1_s, if_neg o, ea, y_xk (y_in (by omega) (by omega)), y_xk (y_in (by omega) (by omega)), y_cl (by omega), m4, ← hu, j2, xb1_s, q2, xb1_s]
    · have x6 : xin (nI i) 6 = true := y_in (by omega) (by omega)
      have y6 : (nI i).toNatClampNeg = i := y_cl (by omega)
      rw [f_X0_makePayment, y_xk x6, y_xk x6, y6, j1, xb1_s]
-- settlements
theorem m_settle {K : Int} (hK0 : 0 ≤ K) (hK : K ≤ 17920) {P : sPar} {C : sCla} {D : sDeb} {J : sJou} {r t : xF32} {d g : Int32} {s : xF64} (h : RA K (P, C, D, J, r, t, d, g) s) {fu : Nat} (hfu : 300 < fu) (a1 a2 a3 F7 : Int32) (z : Int64) : ∃ fc oc s' F7' z', f_X0_faultOfSettlement fu a1 a2 a3 P D = some fc ∧ f_X8_settling fu a1 a2 a3 s F7 z = some (oc, s', F7', z') ∧ ((fc = 7 ∧ oc = 1 ∧ s' = s ∧ F7' = F7) ∨ (fc = 8 ∧ oc = 2 ∧ s' = s ∧ F7' = F7) ∨ (fc = 4 ∧ oc = 9 ∧ s' = s ∧ F7' = 4) ∨ (fc = 0 ∧ oc = 0 ∧ F7' = F7 ∧ ∃ D' J', f_X0_makeSettlement fu a1 a2 a3 D J = some (D', J') ∧ RA (K + 1) (P, C, D', J', r, t, d, g) s' ∧ f_X2_owedBy fu a1 a2 D' = some z')) := by
  obtain ⟨n, c, m, j, dn, gn, hP, vP, hC, vC, hD, v1, v2, v3, hJ, h0⟩ := h.get
  have hn := hP.1
  have hc := hC.1
  have o : ¬ (1 : Int32) = 0 := by decide
  rcases p_both hP a1 a2 with ⟨b1, b2⟩ | ⟨b1, b2, b3, i, i', hi, hi', -, -⟩
  · refine ⟨7, 1, s, F7, z, by rw [f_X0_faultOfSettlement, b1, xb1_s, if_pos rfl], ?_, .inl ⟨rfl, rfl, rfl, rfl⟩⟩
    rcases b2 with b2 | ⟨b2, b3⟩
    · rw [f_X8_settling, b2, xb1_s, if_pos rfl]
    · rw [f_X8_settling, b2, xb1_s, if_neg o, b3, xb1_s, if_pos rfl]
  by_cases ca : 1 ≤ a3
  · obtain ⟨v, w1, w2, w3⟩ := d_owed hD (fu := fu) (by omega) a1 a2
    have hpr := y_prb hK0 hK hn vP v1 v3
    by_cases cl : a3.toInt64 ≤ v
    · have ca' : 1 ≤ a3.toInt := by rw [y_le32] at ca; exact ca
      have cl' : a3.toInt ≤ v.toInt := by rw [y_le64, y_w] at cl; exact cl
      obtain ⟨m', D', s2, d1, d2, d3, d4, d5, d6, d7, d8, d9, ⟨u, d10, d11⟩, d12, d13⟩ := d_pay1 hD v1 (by omega) v2 (β := fun x => (P.2.2.2.2.1 x.toNatClampNeg).toInt + K * 100000000) v3 hpr hfu w1 (by omega) a3.toInt64 (by rw [y_w]; omega) (by rw [y_w]; exact cl')
      obtain ⟨j', J', s3, j1, j2, j3, j4⟩ := j_add (hJ.frame (fun k hk => d4 k (by omega) (by omega))) (fu := fu) (by omega) 8 a3.toInt64
      have hD3 := d3.frame (t := s3) (fun k hk => j4 k (by omega) (by omega))
      obtain ⟨v', w1', w2', w3'⟩ := d_owed hD3 (fu := fu) (by omega) a1 a2
      have hfr : ∀ k, k ≠ 4 → ¬ (122 ≤ k ∧ k < 272) → k ≠ 5 → ¬ (272 ≤ k ∧ k < 304) → s3 k = s k := fun k k1 k2 k3 k4 => by rw [j4 k k3 k4, d4 k k1 k2]
      refine ⟨0, 0, s3, F7, v', by rw [f_X0_faultOfSettlement, b1, xb1_s, if_neg o, if_pos ca, w1, xb1_s, if_pos cl], ?_, .inr (.inr (.inr ⟨rfl, rfl, rfl, D', J', ?_, ⟨n, c, m', j', dn, gn, hP.frame (fun k hk => hfr k (by omega) (by omega) (by omega) (by omega)), vP.mono (by omega), hC.frame (fun k hk => hfr k (by omega) (by omega) (by omega) (by omega)), vC, hD3, d5, d6.mono (by omega), VD3.mono (K := K) d7 (by omega), j3, h0.frame (fun k hk => hfr k (by omega) (by omega) (by omega) (by omega))⟩, w1'⟩))⟩
      · rw [f_X8_settling, b2, xb1_s, if_neg o, b3, xb1_s, if_neg o, if_pos ca, w2, xb1_s, if_pos cl, d2, xb1_s, j2, xb1_s, w2', xb1_s]
      · rw [f_X0_makeSettlement, d1, xb1_s, j1, xb1_s]
    · refine ⟨4, 9, s, 4, z, by rw [f_X0_faultOfSettlement, b1, xb1_s, if_neg o, if_pos ca, w1, xb1_s, if_neg cl], ?_, .inr (.inr (.inl ⟨rfl, rfl, rfl, rfl⟩))⟩
      rw [f_X8_settling, b2, xb1_s, if_neg o, b3, xb1_s, if_neg o, if_pos ca, w2, xb1_s, if_neg cl, f_X8_refuses, xb2_s]
  · refine ⟨8, 2, s, F7, z, by rw [f_X0_faultOfSettlement, b1, xb1_s, if_neg o, if_neg ca], ?_, .inr (.inl ⟨rfl, rfl, rfl, rfl⟩)⟩
    rw [f_X8_settling, b2, xb1_s, if_neg o, b3, xb1_s, if_neg o, if_neg ca]
-- days
theorem m_pass {K : Int} (hK0 : 0 ≤ K) (hK : K ≤ 17920) {P : sPar} {C : sCla} {D : sDeb} {J : sJou} {r t : xF32} {d g : Int32} {s : xF64} (h : RA K (P, C, D, J, r, t, d, g) s) {fu : Nat} (hfu : 1200 < fu) (a1 : Int32) (z : Int64) : ∃ fc oc s' z', f_X0_faultOfDays a1 d = some fc ∧ f_X8_passing fu a1 s z = some (oc, s', z') ∧ ((fc = 8 ∧ oc = 1 ∧ s' = s) ∨ (fc = 9 ∧ oc = 2 ∧ s' = s) ∨ (fc = 0 ∧ oc = 0 ∧ ∃ D' d', f_X0_letDaysPass fu a1 D r d g = some (z', D', d') ∧ RA (K + 1) (P, C, D', J, r, t, d', g) s')) := by
  obtain ⟨n, c, m, j, dn, gn, hP, vP, hC, vC, hD, v1, v2, v3, hJ, h0⟩ := h.get
  have hn := hP.1
  have hc := hC.1
  have o : ¬ (1 : Int32) = 0 := by decide
  have i0 : xin 0 304 = true := by decide
  obtain ⟨g1, g2, rfl, rfl, g5, g6, g7⟩ := h0
  obtain ⟨v, w1, w2, w3, w4⟩ := y_in3 a1 0 999
  rcases w4 with ⟨rfl, -⟩ | ⟨rfl, w4, w5⟩
  · refine ⟨8, 1, s, z, by rw [f_X0_faultOfDays, w2, xb1_s, if_pos rfl], ?_, .inl ⟨rfl, rfl, rfl⟩⟩
    rw [f_X8_passing, w1, xb1_s, if_pos rfl]
  have w4' : 0 ≤ a1.toInt := w4
  have w5' : a1.toInt ≤ 999 := w5
  obtain ⟨N, hN, rfl⟩ : ∃ N : Nat, N ≤ 999 ∧ a1 = nI N := ⟨a1.toInt.toNat, by omega, by
    rw [y_eq32, nI_toInt (by omega)]
    omega⟩
  have e1 : (nI dn + nI N ≤ (3650 : Int32)) ↔ dn + N ≤ 3650 := by
    rw [nI_add]
    exact nI_leI (a := dn + N) (b := 3650) (by omega) (by omega)
  have e2 : (s 0 + (nI N).toInt64 ≤ 3650) ↔ dn + N ≤ 3650 := by
    rw [g5, nI_l (by omega), lN_add]
    exact lN_le (a := dn + N) (b := 3650) (by omega) (by omega)
  by_cases cd : dn + N ≤ 3650
  · have hpr := y_prb hK0 hK hn vP v1 v3
    obtain ⟨t1, t2, t3, t4, t5, t6⟩ := g7 gn (by omega)
    obtain ⟨T, D', s', k1, k2, k3, k4, k5, k6, k7⟩ := d_pass hD v1 (by omega) v2 hpr t3 t4 (gn := gn) (N := N) ⟨g2, g6, t1⟩ hN hfu
    have hfr : ∀ k, k ≠ 0 → ¬ (122 ≤ k ∧ k < 272) → vp_updL s' 0 (s 0 + lN N) k = s k := fun k q1 q2 => by rw [y_un q1, k7 k q2]
    refine ⟨0, 0, _, T, by rw [f_X0_faultOfDays, w2, xb1_s, if_neg o, if_pos (e1.mpr cd)], ?_, .inr (.inr ⟨rfl, rfl, D', nI dn + nI N, ?_, ⟨n, c, m, j, dn + N, gn, hP.frame (fun k hk => hfr k (by omega) (by omega)), vP.mono (by omega), hC.frame (fun k hk => hfr k (by omega) (by omega)), vC, k3.frame (fun k hk => y_un (by omega)), k4, k5, fun k hk => ?_, hJ.frame (fun k hk => hfr k (by omega) (by omega)), ⟨cd, g2, nI_add dn N, rfl, ?_, ?_, fun k hk => ?_⟩⟩⟩)⟩
    · rw [f_X8_passing, w1, xb1_s, if_neg o, y_xk i0, y_cl0, if_pos (e2.mpr cd)]
      exact k2
    · have x4 : xin (nI gn) 4 = true := y_in (by omega) (by omega)
      rw [f_X0_letDaysPass, y_xk x4, y_cl (by omega), k1, xb2_s]
    · obtain ⟨q1, q2⟩ := k6 k hk
      show (D'.2.2.2.1 k).toInt ≤ (P.2.2.2.2.1 (D'.2.1 k).toNatClampNeg).toInt + (K + 1) * 100000000
      rw [q1, q2]
      have : (D.2.2.2.1 k).toInt ≤ (P.2.2.2.2.1 (D.2.1 k).toNatClampNeg).toInt + K * 100000000 := v3 k hk
      omega
    · rw [y_us, g5, lN_add]
    · rw [hfr 1 (by omega) (by omega)]; exact g6
    · rw [hfr _ (by omega) (by omega), hfr _ (by omega) (by omega)]
      exact g7 k hk
  · refine ⟨9, 2, s, z, by rw [f_X0_faultOfDays, w2, xb1_s, if_neg o, if_neg (fun q => cd (e1.mp q))], ?_, .inr (.inl ⟨rfl, rfl, rfl⟩)⟩
    rw [f_X8_passing, w1, xb1_s, if_neg o, y_xk i0, y_cl0, if_neg (fun q => cd (e2.mp q))]
theorem m_goOn {K : Int} {P : sPar} {C : sCla} {D : sDeb} {J : sJou} {r t : xF32} {d g : Int32} {s : xF64} (h : RA K (P, C, D, J, r, t, d, g) s) (z : Int64) : ∃ fc oc s' z', f_X0_faultOfNextStage g = some fc ∧ f_X8_goingOn s z = some (oc, s', z') ∧ ((fc = 9 ∧ oc = 1 ∧ s' = s) ∨ (fc = 0 ∧ oc = 0 ∧ ∃ g', f_X0_enterNextStage g = some g' ∧ RA K (P, C, D, J, r, t, d, g') s' ∧ z' = g'.toInt64)) := by
  obtain ⟨n, c, m, j, dn, gn, hP, vP, hC, vC, hD, v1, v2, v3, hJ, h0⟩ := h.get
  obtain ⟨g1, g2, rfl, rfl, g5, g6, g7⟩ := h0
  have hn := hP.1
  have i1 : xin 1 304 = true := by decide
  have l1 : (1 : Int32).toNatClampNeg = 1 := rfl
  by_cases cg : gn = 3
  · have f3 : ¬ nI gn < (3 : Int32) := by rw [cg]; exact nI_nlt (a := 3) (b := 3) (by omega) (by omega)
    have f4 : s 1 = 3 := by rw [g6, cg]; rfl
    refine ⟨9, 1, s, z, by rw [f_X0_faultOfNextStage, if_neg f3], by rw [f_X8_goingOn, y_xk i1, l1, if_pos f4], .inl ⟨rfl, rfl, rfl⟩⟩
  · have f3 : nI gn < (3 : Int32) := nI_lt (a := gn) (b := 3) (by omega) (by omega)
    have f4 : ¬ s 1 = 3 := by
      rw [g6]
      exact fun q => cg ((lN_eq (a := gn) (b := 3) (by omega) (by omega)).mp q)
    have hfr : ∀ k, k ≠ 1 → vp_updL s 1 (lN (gn + 1)) k = s k := fun k q1 => y_un q1
    refine ⟨0, 0, vp_updL s 1 (lN (gn + 1)), lN (gn + 1), by rw [f_X0_faultOfNextStage, if_pos f3], ?_, .inr ⟨rfl, rfl, nI gn + 1, rfl, ⟨n, c, m, j, dn, gn + 1, hP.frame (fun k hk => hfr k (by omega)), vP, hC.frame (fun k hk => hfr k (by omega)), vC, hD.frame (fun k hk => hfr k (by omega)), v1, v2, v3, hJ.frame (fun k hk => hfr k (by omega)), ⟨g1, by omega, rfl, nI_1 gn, ?_, y_us _ _ _, fun k hk => ?_⟩⟩, ?_⟩⟩
    · rw [f_X8_goingOn, y_xk i1, l1, if_neg f4, y_xk i1, y_xk i1, y_xk i1, g6, lN_1, y_us]
    · rw [hfr 0 (by omega)]; exact g5
    · rw [hfr _ (by omega), hfr _ (by omega)]
      exact g7 k hk
    · rw [nI_1, nI_l (by omega)]
