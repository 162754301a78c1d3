-- claims
theorem c_claims {n : Nat} {C : sCla} {s : xF64} (h : RC n C s) : f_X8_claims s = some (nI n) := by
  simp (disch := omega) only [f_X8_claims, q3, y_in, xk_t, y_cl, h.2.2.1, lN_i]
theorem c_has {n : Nat} {C : sCla} {s : xF64} (h : RC n C s) (x : Int32) : ∃ b, f_X1_has x C = some b ∧ f_X8_isClaim x s = some b ∧ (b = 0 ∨ (b = 1 ∧ ∃ i, i < n ∧ x = nI i)) := by
  have hn := h.1
  obtain ⟨b, h1, h2, h3⟩ := y_has x (c := n) (by omega)
  refine ⟨b, ?_, ?_, h3⟩
  · rw [← h1]; unfold f_X1_has; rw [h.2.1]
  · rw [← h2]; unfold f_X8_isClaim; rw [c_claims h]; rfl
theorem c_at (i w : Nat) : f_X8_claimAt (nI i) (nI w) = some (nI (50 + 6 * i + w)) := by
  simp only [f_X8_claimAt, q50, q6, pk_mul, nI_add]
theorem c_left {pn n : Nat} {C : sCla} {s : xF64} (h : RC n C s) (v : VC pn n C) {i : Nat} (hi : i < n) : ∃ L, f_X1_leftOf (nI i) C = some L ∧ f_X8_restOf (nI i) s = some L.toInt64 ∧ L.toInt = (C.2.2.2.1 i).toInt - (C.2.2.2.2.1 i).toInt - (C.2.2.2.2.2.1 i).toInt - (C.2.2.2.2.2.2 i).toInt := by
  have hn := h.1
  obtain ⟨a1, a2, a3, a4, a5, a6⟩ := h.2.2.2.1 i hi
  obtain ⟨-, v2, v3, v4, v5, v6⟩ := v i hi
  have e1 : (C.2.2.2.1 i - C.2.2.2.2.1 i).toInt = (C.2.2.2.1 i).toInt - (C.2.2.2.2.1 i).toInt := y_sub (by omega) (by omega)
  have e2 : (C.2.2.2.1 i - C.2.2.2.2.1 i - C.2.2.2.2.2.1 i).toInt = (C.2.2.2.1 i).toInt - (C.2.2.2.2.1 i).toInt - (C.2.2.2.2.2.1 i).toInt := by
    rw [y_sub (by omega) (by omega), e1]
  refine ⟨_, ?_, ?_, ?_⟩
  · exact C.2.2.2.1 i - C.2.2.2.2.1 i - C.2.2.2.2.2.1 i - C.2.2.2.2.2.2 i
  · simp (disch := omega) only [f_X1_leftOf, y_in, xk_t, y_cl]
  · simp (disch := omega) only [f_X8_restOf, q2, q3, q4, q5, c_at, xb1_s, y_in, xk_t, y_cl, a3, a4, a5, a6]
    rw [y_wsub (by omega) (by omega), y_wsub (by omega) (by omega), y_wsub (by omega) (by omega)]
  · rw [y_sub (by omega) (by omega), e2]
theorem c_disputed {pn n : Nat} {C : sCla} {s : xF64} (h : RC n C s) (v : VC pn n C) {fu : Nat} (hfu : 20 < fu) : ∃ S, f_X1_sumInDispute fu C = some S ∧ f_X8_disputed fu s = some S ∧ 0 ≤ S.toInt ∧ S.toInt ≤ 1200000000 ∧ (n = 0 → S = 0) := by
  have hn := h.1
  have hb := ysum_rng (f := fun k => (C.2.2.2.1 k - C.2.2.2.2.2.2 k).toInt64) (c := 100000000) (by omega) (n := n) (by omega) (fun k hk => by
    obtain ⟨-, v2, v3, v4, v5, v6⟩ := v k hk
    rw [y_w, y_sub (by omega) (by omega)]
    omega)
  refine ⟨_, ?_, ?_, hb.1, by omega, ?_⟩
  · refine ylp (fun m acc y => f_X1_sumInDispute_4 fu C m acc y) (fun i => ysum (fun k => (C.2.2.2.1 k - C.2.2.2.2.2.2 k).toInt64) i) n ?_ ?_ (by omega)
    · intro m acc
      simp (disch := omega) only [f_X1_sumInDispute_4, h.2.1, y_self, if_true]
    · intro m i hi
      simp (disch := omega) only [f_X1_sumInDispute_4, h.2.1, y_nge, if_false, y_in, xk_t, y_cl, nI_1, ysum]
  · refine ylp (fun m acc y => f_X8_disputed_4 fu s m acc y) (fun i => ysum (fun k => (C.2.2.2.1 k - C.2.2.2.2.2.2 k).toInt64) i) n ?_ ?_ (by omega)
    · intro m acc
      simp (disch := omega) only [f_X8_disputed_4, c_claims h, xb1_s, y_self, if_true]
    · intro m i hi
      obtain ⟨a1, a2, a3, a4, a5, a6⟩ := h.2.2.2.1 i hi
      obtain ⟨-, v2, v3, v4, v5, v6⟩ := v i hi
      simp (disch := omega) only [f_X8_disputed_4, c_claims h, xb1_s, y_nge, if_false, q2, q5, c_at, y_in, xk_t, y_cl, a3, a6, nI_1, ysum]
      rw [y_wsub (by omega) (by omega)]
  · rintro rfl; rfl
theorem c_allLeft {pn n : Nat} {C : sCla} {s : xF64} (h : RC n C s) (v : VC pn n C) {fu : Nat} (hfu : 20 < fu) : ∃ S, f_X1_allLeft fu C = some S ∧ f_X8_rests fu s = some S := by
  have hn := h.1
  have hl : ∀ k, k < n → ∃ L : Int32, f_X1_leftOf (nI k) C = some L ∧ f_X8_restOf (nI k) s = some L.toInt64 := fun k hk => by
    obtain ⟨L, h1, h2, h3⟩ := c_left h v hk
    exact ⟨L, h1, h2⟩
  let g : Nat → Int64 := fun k => ((f_X1_leftOf (nI k) C).getD 0).toInt64
  refine ⟨ysum g n, ?_, ?_⟩
  · refine ylp (fun m acc y => f_X1_allLeft_4 fu C m acc y) (fun i => ysum g i) n ?_ ?_ (by omega)
    · intro m acc
      simp (disch := omega) only [f_X1_allLeft_4, h.2.1, y_self, if_true]
    · intro m i hi
      obtain ⟨L, h1, h2⟩ := hl i hi
      have hg : g i = L.toInt64 := by simp only [g, h1, Option.getD_some]
      simp (disch := omega) only [f_X1_allLeft_4, h.2.1, y_nge, if_false, h1, xb1_s, nI_1, ysum, hg]
  · refine ylp (fun m acc y => f_X8_rests_4 fu s m acc y) (fun i => ysum g i) n ?_ ?_ (by omega)
    · intro m acc
      simp (disch := omega) only [f_X8_rests_4, c_claims h, xb1_s, y_self, if_true]
    · intro m i hi
      obtain ⟨L, h1, h2⟩ := hl i hi
      have hg : g i = L.toInt64 := by simp only [g, h1, Option.getD_some]
      simp (disch := omega) only [f_X8_rests_4, c_claims h, xb1_s, y_nge, if_false, h2, nI_1, ysum, hg]
abbrev yL (P : sPar) (C : sCla) (x : Int32) : Nat → Int64 := fun k => if P.2.1 (C.2.1 k).toNatClampNeg = x then (C.2.2.2.2.2.1 k).toInt64 else (C.2.2.2.2.1 k).toInt64
theorem c_isOf {pn n : Nat} {P : sPar} {C : sCla} (hp : pn ≤ 6) (hn : n ≤ 12) (v : VC pn n C) {i : Nat} (hi : i < n) (x : Int32) : f_X0_isClaimOf (nI i) x P C = some (if P.2.1 (C.2.1 i).toNatClampNeg = x then 1 else 0) := by
  obtain ⟨⟨a, b, ha, hb, hab, e1, e2⟩, v2⟩ := v i hi
  simp (disch := omega) only [f_X0_isClaimOf, y_in, xk_t, y_cl, e1]
  by_cases hc : P.2.1 a = x
  · rw [if_pos hc, if_pos hc]
  · rw [if_neg hc, if_neg hc]
theorem c_lost {pn n : Nat} {P : sPar} {C : sCla} {s : xF64} (hP : RP pn P s) (h : RC n C s) (v : VC pn n C) {fu : Nat} (hfu : 20 < fu) (x : Int32) : ∃ S, f_X0_lostBy fu x P C = some S ∧ f_X8_lostBy fu x s = some S ∧ 0 ≤ S.toInt ∧ S.toInt ≤ 1200000000 := by
  have hn := h.1
  have hp := hP.1
  have hb := ysum_rng (f := yL P C x) (c := 100000000) (by omega) (n := n) (by omega) (fun k hk => by
    obtain ⟨-, v2, v3, v4, v5, v6⟩ := v k hk
    by_cases hc : P.2.1 (C.2.1 k).toNatClampNeg = x
    · rw [show yL P C x k = _ from if_pos hc, y_w]
      omega
    · rw [show yL P C x k = _ from if_neg hc, y_w]
      omega)
  have o : ((1 : Int32) = 0) = False := eq_false (by decide)
  refine ⟨_, ?_, ?_, hb.1, by omega⟩
  · refine ylp (fun m acc y => f_X0_lostBy_5 fu P C m x acc y) (fun i => ysum (yL P C x) i) n ?_ ?_ (by omega)
    · intro m acc
      simp (disch := omega) only [f_X0_lostBy_5, h.2.1, y_self, if_true]
    · intro m i hi
      by_cases hc : P.2.1 (C.2.1 i).toNatClampNeg = x
      · simp (disch := omega) only [f_X0_lostBy_5, h.2.1, y_nge, if_false, c_isOf hp hn v hi, hc, if_true, xb1_s, o, y_in, xk_t, y_cl, nI_1, ysum, yL]
      · simp (disch := omega) only [f_X0_lostBy_5, h.2.1, y_nge, if_false, c_isOf hp hn v hi, hc, if_true, xb1_s, y_in, xk_t, y_cl, nI_1, ysum, yL]
  · refine ylp (fun m acc y => f_X8_lostBy_5 fu s m x acc y) (fun i => ysum (yL P C x) i) n ?_ ?_ (by omega)
    · intro m acc
      simp (disch := omega) only [f_X8_lostBy_5, c_claims h, xb1_s, y_self, if_true]
    · intro m i hi
      obtain ⟨a1, a2, a3, a4, a5, a6⟩ := h.2.2.2.1 i hi
      obtain ⟨⟨a, b, ha, hb, hab, e1, e2⟩, v2⟩ := v i hi
      have ep := (hP.2.2.2.1 a ha).1
      have ea : f_X8_claimAt (nI i) 0 = some (nI (50 + 6 * i)) := c_at i 0
      by_cases hc : P.2.1 a = x
      · simp (disch := omega) only [f_X8_lostBy_5, c_claims h, xb1_s, y_nge, if_false, ea, q4, q14, c_at, y_in, xk_t, y_cl, a1, a5, e1, y_wn, nI_add, ep, y_weq, hc, if_true, nI_1, ysum, yL]
      · simp (disch := omega) only [f_X8_lostBy_5, c_claims h, xb1_s, y_nge, if_false, ea, q3, q14, c_at, y_in, xk_t, y_cl, a1, a4, e1, y_wn, nI_add, ep, y_weq, hc, nI_1, ysum, yL]
