-- calls, fees taken, money given back
theorem VP.held {K : Int} {n : Nat} {P : sPar} (v : VP K n P) (hK : K ≤ 20000) {i : Nat} (hi : i < n) : (P.2.2.2.2.1 i - P.2.2.2.2.2.1 i - P.2.2.2.2.2.2 i).toInt = (P.2.2.2.2.1 i).toInt - (P.2.2.2.2.2.1 i).toInt - (P.2.2.2.2.2.2 i).toInt := by
  obtain ⟨v1, v2, v3, v4, v5, v6, v7⟩ := v i hi
  have e1 : (P.2.2.2.2.1 i - P.2.2.2.2.2.1 i).toInt = (P.2.2.2.2.1 i).toInt - (P.2.2.2.2.2.1 i).toInt := y_subL (by omega) (by omega)
  rw [y_subL (by omega) (by omega), e1]
theorem t_take {pn c dn gn : Nat} {C : sCla} {J : sJou} {r t : xF32} {d g : Int32} {K : Int} (hK : K ≤ 20000) (vC : VC pn c C) {fu : Nat} (hfu : 20 < fu) (z0 : Int32) (z3 z4 : xF64) (z5 : Int32) : ∀ l i m (P : sPar) (s : xF64) (acc : Int64), i + l = pn → l < m → RP pn P s → VP K pn P → RC c C s → R0 dn gn r t d g s → ∃ acc' P' s', f_X0_takeAllFees_4 fu C t m acc (nI i) P J = (xb1 (f_X3_addOne fu 6 acc' J) fun z => some (acc', P', z)) ∧ f_X8_takeFees_13 fu m acc (nI i) z0 s z3 z4 z5 = (xb1 (f_X8_notes fu 6 acc' s') fun z => (xb2 (f_X8_keeps fu z3 z4 z5) fun a b => some (acc', z0, z, z3, a, b))) ∧ RP pn P' s' ∧ VP K pn P' ∧ P'.2.2.2.2.1 = P.2.2.2.2.1 ∧ ∀ k, ¬ (38 ≤ k ∧ k < 44) → s' k = s k := by
  intro l
  induction l with
  | zero =>
    intro i m P s acc hi hm hP vP hC h0
    obtain ⟨m, rfl⟩ : ∃ m', m = m' + 1 := ⟨m - 1, by omega⟩
    have hp := hP.1
    have hi' : i = pn := by omega
    subst hi'
    refine ⟨acc, P, s, ?_, ?_, hP, vP, rfl, fun _ _ => rfl⟩
    · simp (disch := omega) only [f_X0_takeAllFees_4, hP.2.1, y_self, if_true]
    · simp (disch := omega) only [f_X8_takeFees_13, p_parties hP, xb1_s, y_self, if_true]
  | succ l ih =>
    intro i m P s acc hi hm hP vP hC h0
    obtain ⟨m, rfl⟩ : ∃ m', m = m' + 1 := ⟨m - 1, by omega⟩
    have hp := hP.1
    have hip : i < pn := by omega
    obtain ⟨a1, a2, a3, a4, a5, a6⟩ := hP.2.2.2.1 i hip
    obtain ⟨S, b1, b2, b3, b4⟩ := f_share hP vP hC vC h0 (fu := fu) (by omega) hip
    obtain ⟨c1, c2⟩ := p_held hP hip
    have hh := vP.held hK hip
    obtain ⟨v1, v2, v3, v4, v5, v6, v7⟩ := vP i hip
    generalize hH : P.2.2.2.2.1 i - P.2.2.2.2.2.1 i - P.2.2.2.2.2.2 i = H at c1 c2 hh
    have ed : (S - P.2.2.2.2.2.1 i).toInt = S.toInt - (P.2.2.2.2.2.1 i).toInt := y_subL (by omega) (by omega)
    have hm := y_minT (S - P.2.2.2.2.2.1 i) H
    have et : (P.2.2.2.2.2.1 i + xminL (S - P.2.2.2.2.2.1 i) H).toInt = (P.2.2.2.2.2.1 i).toInt + (xminL (S - P.2.2.2.2.2.1 i) H).toInt := y_addL (by omega) (by omega)
    have hP1 := p_set38 hP hip (P.2.2.2.2.2.1 i + xminL (S - P.2.2.2.2.2.1 i) H)
    obtain ⟨acc', P', s', g1, g2, g3, g4, g5, g6⟩ := ih (i + 1) m _ _ (acc + xminL (S - P.2.2.2.2.2.1 i) H) (by omega) (by omega) hP1 (fun k hk => by
      have w := vP k hk
      by_cases e : k = i
      · subst e
        simp only [y_us]
        refine ⟨v1, v2, v3, v4, by omega, v6, by omega⟩
      · simp only [y_un e]
        exact w) (hC.frame (fun k hk => y_un (by omega))) (h0.frame (fun k hk => y_un (by omega)))
    refine ⟨acc', P', s', ?_, ?_, g3, g4, g5, fun k hk => ?_⟩
    · rw [← g1]
      simp (disch := omega) only [f_X0_takeAllFees_4, hP.2.1, y_nge, if_false, b1, xb1_s, c1, y_in, xk_t, y_cl, nI_1]
    · rw [← g2]
      by_cases hc : S - P.2.2.2.2.2.1 i ≤ 0
      · have e : xminL (S - P.2.2.2.2.2.1 i) H = S - P.2.2.2.2.2.1 i := y_min_l (by rw [y_le64] at hc ⊢; rw [y_z] at hc; omega)
        rw [e]
        simp (disch := omega) only [f_X8_takeFees_13, p_parties hP, xb1_s, y_nge, if_false, b2, q38, nI_add, y_in, xk_t, y_cl, a5, hc, if_true, nI_1]
      · simp (disch := omega) only [f_X8_takeFees_13, p_parties hP, xb1_s, y_nge, if_false, b2, q38, nI_add, y_in, xk_t, y_cl, a5, hc, c2, y_least, nI_1]
    · rw [g6 k hk, y_un (by omega)]
theorem t_give {pn c dn gn : Nat} {C : sCla} {J : sJou} {r t : xF32} {d g : Int32} {K : Int} (hK : K ≤ 20000) (vC : VC pn c C) {fu : Nat} (hfu : 20 < fu) (z0 : Int32) (z3 z4 : xF64) (z5 z7 : Int32) : ∀ l i m (P : sPar) (s : xF64) (acc : Int64), i + l = pn → l < m → RP pn P s → VP K pn P → RC c C s → R0 dn gn r t d g s → ∃ acc' P' s', f_X0_returnAll_4 fu C t m acc (nI i) P J = (xb1 (f_X3_addOne fu 7 acc' J) fun z => some (acc', P', z)) ∧ f_X8_giveBack_39 fu m acc (nI i) z0 s z3 z4 z5 z7 = (xb1 (f_X8_notes fu 7 acc' s') fun z => (xb2 (f_X8_keeps fu z3 z4 z5) fun a b => some (acc', z0, z, z3, a, b, z7))) ∧ RP pn P' s' ∧ VP K pn P' ∧ P'.2.2.2.2.1 = P.2.2.2.2.1 ∧ ∀ k, ¬ (44 ≤ k ∧ k < 50) → s' k = s k := by
  intro l
  induction l with
  | zero =>
    intro i m P s acc hi hm hP vP hC h0
    obtain ⟨m, rfl⟩ : ∃ m', m = m' + 1 := ⟨m - 1, by omega⟩
    have hp := hP.1
    have hi' : i = pn := by omega
    subst hi'
    refine ⟨acc, P, s, ?_, ?_, hP, vP, rfl, fun _ _ => rfl⟩
    · simp (disch := omega) only [f_X0_returnAll_4, hP.2.1, y_self, if_true]
    · simp (disch := omega) only [f_X8_giveBack_39, p_parties hP, xb1_s, y_self, if_true]
  | succ l ih =>
    intro i m P s acc hi hm hP vP hC h0
    obtain ⟨m, rfl⟩ : ∃ m', m = m' + 1 := ⟨m - 1, by omega⟩
    have hp := hP.1
    have hip : i < pn := by omega
    obtain ⟨a1, a2, a3, a4, a5, a6⟩ := hP.2.2.2.1 i hip
    obtain ⟨S, b1, b2, b3, b4⟩ := f_share hP vP hC vC h0 (fu := fu) (by omega) hip
    obtain ⟨c1, c2⟩ := p_held hP hip
    have hh := vP.held hK hip
    obtain ⟨v1, v2, v3, v4, v5, v6, v7⟩ := vP i hip
    generalize hH : P.2.2.2.2.1 i - P.2.2.2.2.2.1 i - P.2.2.2.2.2.2 i = H at c1 c2 hh
    have ed : (S - P.2.2.2.2.2.1 i).toInt = S.toInt - (P.2.2.2.2.2.1 i).toInt := y_subL (by omega) (by omega)
    have hn := y_max0T (S - P.2.2.2.2.2.1 i)
    have en : (H - xmaxL 0 (S - P.2.2.2.2.2.1 i)).toInt = H.toInt - (xmaxL 0 (S - P.2.2.2.2.2.1 i)).toInt := y_subL (by omega) (by omega)
    have hm := y_max0T (H - xmaxL 0 (S - P.2.2.2.2.2.1 i))
    have et : (P.2.2.2.2.2.2 i + xmaxL 0 (H - xmaxL 0 (S - P.2.2.2.2.2.1 i))).toInt = (P.2.2.2.2.2.2 i).toInt + (xmaxL 0 (H - xmaxL 0 (S - P.2.2.2.2.2.1 i))).toInt := y_addL (by omega) (by omega)
    have hP1 := p_set44 hP hip (P.2.2.2.2.2.2 i + xmaxL 0 (H - xmaxL 0 (S - P.2.2.2.2.2.1 i)))
    obtain ⟨acc', P', s', g1, g2, g3, g4, g5, g6⟩ := ih (i + 1) m _ _ (acc + xmaxL 0 (H - xmaxL 0 (S - P.2.2.2.2.2.1 i))) (by omega) (by omega) hP1 (fun k hk => by
      have w := vP k hk
      by_cases e : k = i
      · subst e
        simp only [y_us]
        refine ⟨v1, v2, v3, v4, v5, by omega, by omega⟩
      · simp only [y_un e]
        exact w) (hC.frame (fun k hk => y_un (by omega))) (h0.frame (fun k hk => y_un (by omega)))
    refine ⟨acc', P', s', ?_, ?_, g3, g4, g5, fun k hk => ?_⟩
    · rw [← g1]
      simp (disch := omega) only [f_X0_returnAll_4, hP.2.1, y_nge, if_false, b1, xb1_s, c1, y_in, xk_t, y_cl, nI_1]
    · rw [← g2]
      by_cases hc : S - P.2.2.2.2.2.1 i ≤ 0
      · have e1 : xmaxL 0 (S - P.2.2.2.2.2.1 i) = 0 := by rw [y_max0, if_pos hc]
        rw [e1]
        by_cases hc2 : H - 0 ≤ 0
        · have e2 : xmaxL 0 (H - 0) = 0 := by rw [y_max0, if_pos hc2]
          rw [e2]
          simp (disch := omega) only [f_X8_giveBack_39, p_parties hP, xb1_s, y_nge, if_false, b2, q38, q44, nI_add, y_in, xk_t, y_cl, a5, a6, c2, hc, hc2, if_true, nI_1]
        · have e2 : xmaxL 0 (H - 0) = H - 0 := by rw [y_max0, if_neg hc2]
          rw [e2]
          simp (disch := omega) only [f_X8_giveBack_39, p_parties hP, xb1_s, y_nge, if_false, b2, q38, q44, nI_add, y_in, xk_t, y_cl, a5, a6, c2, hc, hc2, if_true, nI_1]
      · have e1 : xmaxL 0 (S - P.2.2.2.2.2.1 i) = S - P.2.2.2.2.2.1 i := by rw [y_max0, if_neg hc]
        rw [e1]
        by_cases hc2 : H - (S - P.2.2.2.2.2.1 i) ≤ 0
        · have e2 : xmaxL 0 (H - (S - P.2.2.2.2.2.1 i)) = 0 := by rw [y_max0, if_pos hc2]
          rw [e2]
          simp (disch := omega) only [f_X8_giveBack_39, p_parties hP, xb1_s, y_nge, if_false, b2, q38, q44, nI_add, y_in, xk_t, y_cl, a5, a6, c2, hc, hc2, if_true, nI_1]
        · have e2 : xmaxL 0 (H - (S - P.2.2.2.2.2.1 i)) = H - (S - P.2.2.2.2.2.1 i) := by rw [y_max0, if_neg hc2]
          rw [e2]
          simp (disch := omega) only [f_X8_giveBack_39, p_parties hP, xb1_s, y_nge, if_false, b2, q38, q44, nI_add, y_in, xk_t, y_cl, a5, a6, c2, hc, hc2, nI_1]
    · rw [g6 k hk, y_un (by omega)]
theorem t_call {pn : Nat} {J : sJou} {K : Int} (hK0 : 0 ≤ K) (hK : K ≤ 20000) {fu : Nat} (hfu : 20 < fu) (z0 : Int32) (z3 z4 : xF64) (z5 : Int32) {x h : Int32} (hx : 1 ≤ x.toInt) (hx2 : x.toInt ≤ 100000000) (hh : h.toInt = x.toInt / 2) : ∀ l i m (P : sPar) (s : xF64) (acc : Int64), i + l = pn → l < m → RP pn P s → VP (K + 1) pn P → (∀ k, i ≤ k → k < pn → (P.2.2.2.1 k).toInt ≤ K * 100000006) → ∃ acc' P' s', f_X0_makeCall_9 fu m x h acc (nI i) P J = (xb1 (f_X3_addOne fu 4 acc' J) fun z => some (acc', P', z)) ∧ f_X8_call_36 fu m x h.toInt64 acc (nI i) z0 s z3 z4 z5 = (xb1 (f_X8_notes fu 4 acc' s') fun z => (xb2 (f_X8_keeps fu z3 z4 z5) fun a b => some (acc', z0, z, z3, a, b))) ∧ RP pn P' s' ∧ VP (K + 1) pn P' ∧ P'.2.2.2.2.1 = P.2.2.2.2.1 ∧ ∀ k, ¬ (26 ≤ k ∧ k < 32) → s' k = s k := by
  intro l
  induction l with
  | zero =>
    intro i m P s acc hi hm hP vP hb
    obtain ⟨m, rfl⟩ : ∃ m', m = m' + 1 := ⟨m - 1, by omega⟩
    have hp := hP.1
    have hi' : i = pn := by omega
    subst hi'
    refine ⟨acc, P, s, ?_, ?_, hP, vP, rfl, fun _ _ => rfl⟩
    · simp (disch := omega) only [f_X0_makeCall_9, hP.2.1, y_self, if_true]
    · simp (disch := omega) only [f_X8_call_36, p_parties hP, xb1_s, y_self, if_true]
  | succ l ih =>
    intro i m P s acc hi hm hP vP hb
    obtain ⟨m, rfl⟩ : ∃ m', m = m' + 1 := ⟨m - 1, by omega⟩
    have hp := hP.1
    have hip : i < pn := by omega
    obtain ⟨a1, a2, a3, a4, a5, a6⟩ := hP.2.2.2.1 i hip
    obtain ⟨v1, v2, v3, v4, v5, v6, v7⟩ := vP i hip
    have bi := hb i (Nat.le_refl _) hip
    have ew : (x - h).toInt64 = x.toInt64 - h.toInt64 := y_wsub (by omega) (by omega)
    have es : (x - h).toInt = x.toInt - h.toInt := y_sub (by omega) (by omega)
    let am : Int64 := if P.2.1 i = 0 then (x - h).toInt64 else h.toInt64
    have ham : 0 ≤ am.toInt ∧ am.toInt ≤ 100000000 := by
      show 0 ≤ (if P.2.1 i = 0 then (x - h).toInt64 else h.toInt64).toInt ∧ (if P.2.1 i = 0 then (x - h).toInt64 else h.toInt64).toInt ≤ 100000000
      by_cases c : P.2.1 i = 0
      · rw [if_pos c, y_w, es]; omega
      · rw [if_neg c, y_w]; omega
    obtain ⟨S, b1, b2, b3⟩ := p_partOf hP vP (fu := fu) (by omega) am hip
    have bS := b3 ham.1 (by omega)
    have et : (P.2.2.2.1 i + S).toInt = (P.2.2.2.1 i).toInt + S.toInt := y_addL (by omega) (by omega)
    have hP1 := p_set26 hP hip (P.2.2.2.1 i + S)
    obtain ⟨acc', P', s', g1, g2, g3, g4, g5, g6⟩ := ih (i + 1) m _ _ (acc + S) (by omega) (by omega) hP1 (fun k hk => by
      have w := vP k hk
      by_cases e : k = i
      · subst e
        simp only [y_us]
        refine ⟨v1, v2, by omega, v4, v5, v6, v7⟩
      · simp only [y_un e]
        exact w) (fun k hk1 hk => by
      simp (disch := omega) only [y_un]
      exact hb k (by omega) hk)
    have o10 : ((1 : Int64) = 0) = False := eq_false (by decide)
    have o01 : ((0 : Int32).toInt64 = 1) = False := eq_false (by decide)
    have o11 : ((1 : Int32).toInt64 = 1) = True := eq_true (by decide)
    have p10 : ((1 : Int32) = 0) = False := eq_false (by decide)
    refine ⟨acc', P', s', ?_, ?_, g3, g4, g5, fun k hk => ?_⟩
    · rw [← g1]
      by_cases c : P.2.1 i = 0
      · have e : am = (x - h).toInt64 := if_pos c
        rw [e] at b1
        simp (disch := omega) only [f_X0_makeCall_9, hP.2.1, y_nge, if_false, if_true, c, b1, xb1_s, y_in, xk_t, y_cl, nI_1]
      · have e : am = h.toInt64 := if_neg c
        rw [e] at b1
        simp (disch := omega) only [f_X0_makeCall_9, hP.2.1, y_nge, if_false, c, b1, xb1_s, y_in, xk_t, y_cl, nI_1]
    · rw [← g2]
      rcases v1 with c | c
      · have e : am = x.toInt64 - h.toInt64 := by rw [← ew]; exact if_pos c
        rw [e] at b2
        simp (disch := omega) only [f_X8_call_36, p_parties hP, xb1_s, y_nge, if_false, q14, q26, nI_add, y_in, xk_t, y_cl, a1, a3, c, o01, b2, nI_1]
      · have e : am = h.toInt64 := if_neg (by rw [c]; decide)
        rw [e] at b2
        simp (disch := omega) only [f_X8_call_36, p_parties hP, xb1_s, y_nge, if_false, if_true, q14, q26, nI_add, y_in, xk_t, y_cl, a1, a3, c, o11, b2, nI_1]
    · rw [g6 k hk, y_un (by omega)]
