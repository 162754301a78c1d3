-- the commands, on both sides
theorem y_in3 (x lo hi : Int32) : ∃ v, f_X8_in x lo hi = some v ∧ f_X7_isWithin x lo hi = some v ∧ xisb v = true ∧ ((v = 0 ∧ ¬ (lo.toInt ≤ x.toInt ∧ x.toInt ≤ hi.toInt)) ∨ (v = 1 ∧ lo.toInt ≤ x.toInt ∧ x.toInt ≤ hi.toInt)) := by
  unfold f_X8_in f_X7_isWithin
  by_cases c1 : x < lo
  · rw [if_pos c1]
    rw [y_lt32] at c1
    exact ⟨0, rfl, rfl, y_isb0, .inl ⟨rfl, by omega⟩⟩
  · rw [if_neg c1]
    rw [y_lt32] at c1
    by_cases c2 : hi < x
    · rw [if_pos c2]
      rw [y_lt32] at c2
      exact ⟨0, rfl, rfl, y_isb0, .inl ⟨rfl, by omega⟩⟩
    · rw [if_neg c2]
      rw [y_lt32] at c2
      exact ⟨1, rfl, rfl, y_isb1, .inr ⟨rfl, by omega, by omega⟩⟩
theorem y_amount (x : Int32) : ∃ v, f_X8_in x 1 100000000 = some v ∧ f_X7_isAmount x = some v ∧ (v = 0 ∨ (v = 1 ∧ 1 ≤ x.toInt ∧ x.toInt ≤ 100000000)) := by
  obtain ⟨v, h1, h2, h3, h4⟩ := y_in3 x 1 100000000
  refine ⟨v, h1, by rw [f_X7_isAmount, h2, xb1_s, h3, xk_t], ?_⟩
  rcases h4 with ⟨h4, -⟩ | ⟨h4, h5, h6⟩
  · exact .inl h4
  · exact .inr ⟨h4, h5, h6⟩
theorem y_prb {K : Int} (hK0 : 0 ≤ K) (hK : K ≤ 17920) {pn m : Nat} {P : sPar} {D : sDeb} (hp : pn ≤ 6) (vP : VP K pn P) (v1 : VD1 m D pn) (v3 : VD3 K m D P) : ∀ k, k < m → (D.2.2.2.1 k).toInt ≤ 3584100000000 := fun k hk => by
  obtain ⟨a, b, ha, hb, hab, e1, e2⟩ := v1.1 k hk
  have h := v3 k hk
  rw [e1, y_cl (by omega)] at h
  have := (vP a ha).2.2.2.1
  omega
theorem p_both {n : Nat} {P : sPar} {s : xF64} (h : RP n P s) (a1 a2 : Int32) : (f_X4_hasBoth a1 a2 P = some 0 ∧ (f_X8_isParty a1 s = some 0 ∨ (f_X8_isParty a1 s = some 1 ∧ f_X8_isParty a2 s = some 0))) ∨ (f_X4_hasBoth a1 a2 P = some 1 ∧ f_X8_isParty a1 s = some 1 ∧ f_X8_isParty a2 s = some 1 ∧ ∃ i j, i < n ∧ j < n ∧ a1 = nI i ∧ a2 = nI j) := by
  obtain ⟨b, h1, h2, h3⟩ := p_has h a1
  obtain ⟨b', k1, k2, k3⟩ := p_has h a2
  have o : ¬ (1 : Int32) = 0 := by decide
  rcases h3 with rfl | ⟨rfl, i, hi, e1⟩
  · exact .inl ⟨by rw [f_X4_hasBoth, h1, xb1_s, if_pos rfl], .inl h2⟩
  · rcases k3 with rfl | ⟨rfl, j, hj, e2⟩
    · exact .inl ⟨by rw [f_X4_hasBoth, h1, xb1_s, if_neg o, k1, xb1_s, if_pos rfl], .inr ⟨h2, k2⟩⟩
    · exact .inr ⟨by rw [f_X4_hasBoth, h1, xb1_s, if_neg o, k1, xb1_s, if_neg o], h2, k2, i, j, hi, hj, e1, e2⟩
theorem m_claim {K : Int} {P : sPar} {C : sCla} {D : sDeb} {J : sJou} {r t : xF32} {d g : Int32} {s : xF64} (h : RA K (P, C, D, J, r, t, d, g) s) (a1 a2 a3 : Int32) (z : Int64) : ∃ fc oc s' z', f_X0_faultOfClaim a1 a2 a3 P C g = some fc ∧ f_X8_claiming a1 a2 a3 s z = some (oc, s', z') ∧ ((fc = 7 ∧ oc = 1 ∧ s' = s) ∨ (fc = 8 ∧ oc = 2 ∧ s' = s) ∨ (fc = 9 ∧ oc = 3 ∧ s' = s) ∨ (fc = 0 ∧ oc = 0 ∧ ∃ v C', f_X1_addOne a1 a2 a3 C = some (v, C') ∧ RA K (P, C', D, J, r, t, d, g) s' ∧ z' = v.toInt64)) := by
  obtain ⟨n, c, m, j, dn, gn, hP, vP, hC, vC, hD, v1, v2, v3, hJ, h0⟩ := h
  have hn := hP.1
  have hc := hC.1
  have o : ¬ (1 : Int32) = 0 := by decide
  rcases p_both hP a1 a2 with ⟨b1, b2⟩ | ⟨b1, b2, b3, i, i', hi, hi', rfl, rfl⟩
  · refine ⟨7, 1, s, z, by rw [f_X0_faultOfClaim, b1, xb1_s, if_pos rfl], ?_, .inl ⟨rfl, rfl, rfl⟩⟩
    rcases b2 with b2 | ⟨b2, b3⟩
    · rw [f_X8_claiming, b2, xb1_s, if_pos rfl]
    · rw [f_X8_claiming, b2, xb1_s, if_neg o, b3, xb1_s, if_pos rfl]
  · have q14 : (14 : Int32) = nI 14 := rfl
    have s1 := (hP.2.2.2.1 i hi).1
    have s2 := (hP.2.2.2.1 i' hi').1
    have x1 : xin (nI i) 6 = true := y_in (by omega) (by omega)
    have x2 : xin (nI i') 6 = true := y_in (by omega) (by omega)
    have x3 : xin (nI (14 + i)) 304 = true := y_in (by omega) (by omega)
    have x4 : xin (nI (14 + i')) 304 = true := y_in (by omega) (by omega)
    have y1 : (nI i).toNatClampNeg = i := y_cl (by omega)
    have y2 : (nI i').toNatClampNeg = i' := y_cl (by omega)
    have y3 : (nI (14 + i)).toNatClampNeg = 14 + i := y_cl (by omega)
    have y4 : (nI (14 + i')).toNatClampNeg = 14 + i' := y_cl (by omega)
    have ea : 14 + nI i = nI (14 + i) := nI_add 14 i
    have eb : 14 + nI i' = nI (14 + i') := nI_add 14 i'
    by_cases cs : P.2.1 i = P.2.1 i'
    · refine ⟨8, 2, s, z, by rw [f_X0_faultOfClaim, b1, xb1_s, if_neg o, y_xk x1, y_xk x2, y1, y2, if_pos cs], ?_, .inr (.inl ⟨rfl, rfl, rfl⟩)⟩
      have cs' : s (14 + i) = s (14 + i') := by rw [s1, s2, cs]
      rw [f_X8_claiming, b2, xb1_s, if_neg o, b3, xb1_s, if_neg o, ea, eb, y_xk x3, y_xk x4, y3, y4, if_pos cs']
    · have cs' : ¬ s (14 + i) = s (14 + i') := by rw [s1, s2, y_weq]; exact cs
      have hii : i ≠ i' := fun q => cs (by rw [q])
      obtain ⟨v, w1, w2, w3⟩ := y_amount a3
      rcases w3 with rfl | ⟨rfl, w3, w4⟩
      · refine ⟨8, 2, s, z, by rw [f_X0_faultOfClaim, b1, xb1_s, if_neg o, y_xk x1, y_xk x2, y1, y2, if_neg cs, w2, xb1_s, if_pos rfl], ?_, .inr (.inl ⟨rfl, rfl, rfl⟩)⟩
        rw [f_X8_claiming, b2, xb1_s, if_neg o, b3, xb1_s, if_neg o, ea, eb, y_xk x3, y_xk x4, y3, y4, if_neg cs', w1, xb1_s, if_pos rfl]
      · have hcl := c_claims hC
        obtain ⟨g1, g2, rfl, rfl, g5, g6, g7⟩ := h0
        have i1 : xin 1 304 = true := by decide
        have l1 : (1 : Int32).toNatClampNeg = 1 := rfl
        by_cases c12 : c = 12
        · subst c12
          have f1 : (12 : Int32) ≤ C.1 := by rw [hC.2.1]; exact nI_le (a := 12) (b := 12) (by omega) (by omega)
          have f2 : nI 12 = (12 : Int32) := rfl
          refine ⟨9, 3, s, z, by rw [f_X0_faultOfClaim, b1, xb1_s, if_neg o, y_xk x1, y_xk x2, y1, y2, if_neg cs, w2, xb1_s, if_neg o, if_pos f1], ?_, .inr (.inr (.inl ⟨rfl, rfl, rfl⟩))⟩
          rw [f_X8_claiming, b2, xb1_s, if_neg o, b3, xb1_s, if_neg o, ea, eb, y_xk x3, y_xk x4, y3, y4, if_neg cs', w1, xb1_s, if_neg o, hcl, xb1_s, if_pos f2]
        · have f1 : ¬ (12 : Int32) ≤ C.1 := by rw [hC.2.1]; exact nI_ge (a := c) (b := 12) (by omega) (by omega)
          have f2 : ¬ nI c = (12 : Int32) := fun q => c12 ((nI_eq (a := c) (b := 12) (by omega) (by omega)).mp q)
          by_cases cg : gn = 3
          · have f3 : ¬ nI gn < (3 : Int32) := by rw [cg]; exact nI_nlt (a := 3) (b := 3) (by omega) (by omega)
            have f4 : s 1 = 3 := by rw [g6, cg]; rfl
            refine ⟨9, 3, s, z, by rw [f_X0_faultOfClaim, b1, xb1_s, if_neg o, y_xk x1, y_xk x2, y1, y2, if_neg cs, w2, xb1_s, if_neg o, if_neg f1, if_neg f3], ?_, .inr (.inr (.inl ⟨rfl, rfl, rfl⟩))⟩
            rw [f_X8_claiming, b2, xb1_s, if_neg o, b3, xb1_s, if_neg o, ea, eb, y_xk x3, y_xk x4, y3, y4, if_neg cs', w1, xb1_s, if_neg o, hcl, xb1_s, if_neg f2, y_xk i1, l1, if_pos f4]
          · have f3 : nI gn < (3 : Int32) := nI_lt (a := gn) (b := 3) (by omega) (by omega)
            have f4 : ¬ s 1 = 3 := by
              rw [g6]
              exact fun q => cg ((lN_eq (a := gn) (b := 3) (by omega) (by omega)).mp q)
            have ca0 : f_X8_claimAt (nI c) 0 = some (nI (50 + 6 * c)) := c_at c 0
            have ca1 : f_X8_claimAt (nI c) 1 = some (nI (50 + 6 * c + 1)) := c_at c 1
            have ca2 : f_X8_claimAt (nI c) 2 = some (nI (50 + 6 * c + 2)) := c_at c 2
            have i3 : xin 3 304 = true := by decide
            have l3 : (3 : Int32).toNatClampNeg = 3 := rfl
            obtain ⟨u, hu⟩ : ∃ u : xF64, u = vp_updL (vp_updL (vp_updL s (50 + 6 * c) (nI i).toInt64) (50 + 6 * c + 1) (nI i').toInt64) (50 + 6 * c + 2) a3.toInt64 := ⟨_, rfl⟩
            have u3 : u 3 = lN c := by
              rw [hu, y_un (by omega), y_un (by omega), y_un (by omega)]
              exact hC.2.2.1
            have hfr : ∀ k, k ≠ 3 → k ≠ 50 + 6 * c → k ≠ 50 + 6 * c + 1 → k ≠ 50 + 6 * c + 2 → vp_updL u 3 (lN (c + 1)) k = s k := fun k k1 k2 k3 k4 => by
              rw [y_un k1, hu, y_un k4, y_un k3, y_un k2]
            obtain ⟨C', e1, e2, e3, e4, e5, e6, e7, e8, e9⟩ := c_add hC (by omega) (nI i) (nI i') a3 (t := vp_updL u 3 (lN (c + 1))) (y_us _ _ _) (by rw [y_un (by omega), hu, y_un (by omega), y_un (by omega), y_us]) (by rw [y_un (by omega), hu, y_un (by omega), y_us]) (by rw [y_un (by omega), hu, y_us]) hfr
            refine ⟨0, 0, vp_updL u 3 (lN (c + 1)), (nI c).toInt64, by rw [f_X0_faultOfClaim, b1, xb1_s, if_neg o, y_xk x1, y_xk x2, y1, y2, if_neg cs, w2, xb1_s, if_neg o, if_neg f1, if_pos f3], ?_, .inr (.inr (.inr ⟨rfl, rfl, nI c, C', e1, ⟨n, c + 1, m, j, dn, gn, hP.frame (fun k hk => hfr k (by omega) (by omega) (by omega) (by omega)), vP, e2, fun k hk => ?_, hD.frame (fun k hk => hfr k (by omega) (by omega) (by omega) (by omega)), v1, v2, v3, hJ.frame (fun k hk => hfr k (by omega) (by omega) (by omega) (by omega)), R0.frame ⟨g1, g2, rfl, rfl, g5, g6, g7⟩ (fun k hk => hfr k (by omega) (by omega) (by omega) (by omega))⟩, rfl⟩))⟩
            · rw [f_X8_claiming, b2, xb1_s, if_neg o, b3, xb1_s, if_neg o, ea, eb, y_xk x3, y_xk x4, y3, y4, if_neg cs', w1, xb1_s, if_neg o, hcl, xb1_s, if_neg f2, y_xk i1, l1, if_neg f4, xb1_s, ca0, xb1_s, y_xk (y_in (by omega) (by omega)), ca1, xb1_s, y_xk (y_in (by omega) (by omega)), ca2, xb1_s, y_xk (y_in (by omega) (by omega)), y_xk i3, y_xk i3, l3, y_cl (by omega), y_cl (by omega), y_cl (by omega), ← hu, u3, lN_1]
            · by_cases e : k = c
              · subst e
                show (∃ a b, a < n ∧ b < n ∧ a ≠ b ∧ C'.2.1 k = nI a ∧ C'.2.2.1 k = nI b) ∧ _
                rw [e3, e4, e5, e6, e7, e8]
                have z0 : (0 : Int32).toInt = 0 := rfl
                rw [z0]
                exact ⟨⟨i, i', hi, hi', hii, rfl, rfl⟩, ⟨w3, w4⟩, by omega, by omega, by omega, by omega⟩
              · obtain ⟨p1, p2, p3, p4, p5, p6⟩ := e9 k e
                show (∃ a b, a < n ∧ b < n ∧ a ≠ b ∧ C'.2.1 k = nI a ∧ C'.2.2.1 k = nI b) ∧ _
                rw [p1, p2, p3, p4, p5, p6]
                exact vC k (by omega)
/-- the front of an award, a dismissal, a withdrawal -/
theorem z_stage {gn : Nat} (h : gn ≤ 3) : (lN gn = 0 ↔ gn = 0) ∧ (lN gn ≤ 1 ↔ gn ≤ 1) ∧ (nI gn = 0 ↔ gn = 0) ∧ (nI gn ≤ 1 ↔ gn ≤ 1) :=
  ⟨lN_eq (a := gn) (b := 0) (by omega) (by omega), lN_le (a := gn) (b := 1) (by omega) (by omega), nI_eq (a := gn) (b := 0) (by omega) (by omega), nI_leI (a := gn) (b := 1) (by omega) (by omega)⟩
/-- what is left of a claim, and an amount that is not more -/
theorem c_leftB {pn n : Nat} {C : sCla} {s : xF64} (h : RC n C s) (v : VC pn n C) {i : Nat} (hi : i < n) (a : Int32) : ∃ L, f_X1_leftOf (nI i) C = some L ∧ f_X8_restOf (nI i) s = some L.toInt64 ∧ (a ≤ L ↔ a.toInt64 ≤ L.toInt64) ∧ (a ≤ L → (C.2.2.2.2.1 i).toInt + (C.2.2.2.2.2.1 i).toInt + (C.2.2.2.2.2.2 i).toInt + a.toInt ≤ (C.2.2.2.1 i).toInt) := by
  obtain ⟨L, h1, h2, h3⟩ := c_left h v hi
  refine ⟨L, h1, h2, by rw [y_le32, y_le64, y_w, y_w], fun q => ?_⟩
  rw [y_le32] at q
  omega
