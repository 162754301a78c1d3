-- claims
theorem c_claims {n : Nat} {C : sCla} {s : xF64} (h : RC n C s) : f_X8_claims s = some (nI n) := by
  simp (disch := omega) only [f_X8_claims, q3, y_in, xk_t, y_cl, h.2.2.1, lN_i]
theorem c_has {n : Nat} {C : sCla} {s : xF64} (h : RC n C s) (x : Int32) : ∃ b, f_X1_has x C = some b ∧ f_X8_isClaim x s = some b ∧ (b = 0 ∨ (b = 1 ∧ ∃ i, i < n ∧ x = nI i)) := by
  have hn := h.1
  obtain ⟨b, h1, h2, h3⟩ := y_has x (c := n) (by omega)
  refine ⟨b, ?_, ?_, h3⟩
  · rw [← h1]; unfold f_X1_has; rw [h.2.1]
  · rw [← h2]; unfold f_X8_isClaim; rw [c_claims h]; rfl
theorem c_at (i w : Nat) : f_X8_claimAt (nI i) (nI w) = some (nI (50 + 6 * i + w)) := by
  simp only [f_X8_claimAt, q50, q6, pk_mul, nI_add]
theorem c_left {pn n : Nat} {C : sCla} {s : xF64} (h : RC n C s) (v : VC pn n C) {i : Nat} (hi : i < n) : ∃ L, f_X1_leftOf (nI i) C = some L ∧ f_X8_restOf (nI i) s = some L.toInt64 ∧ L.toInt = (C.2.2.2.1 i).toInt - (C.2.2.2.2.1 i).toInt - (C.2.2.2.2.2.1 i).toInt - (C.2.2.2.2.2.2 i).toInt := by
  have hn := h.1
  obtain ⟨a1, a2, a3, a4, a5, a6⟩ := h.2.2.2.1 i hi
  obtain ⟨-, v2, v3, v4, v5, v6⟩ := v i hi
  have e1 : (C.2.2.2.1 i - C.2.2.2.2.1 i).toInt = (C.2.2.2.1 i).toInt - (C.2.2.2.2.1 i).toInt := y_sub (by omega) (by omega)
  have e2 : (C.2.2.2.1 i - C.2.2.2.2.1 i - C.2.2.2.2.2.1 i).toInt = (C.2.2.2.1 i).toInt - (C.2.2.2.2.1 i).toInt - (C.2.2.2.2.2.1 i).toInt := by
    rw [y_sub (by omega) (by omega), e1]
  refine ⟨C.2.2.2.1 i - C.2.2.2.2.1 i - C.2.2.2.2.2.1 i - C.2.2.2.2.2.2 i, ?_, ?_, ?_⟩
  · simp (disch := omega) only [f_X1_leftOf, y_in, xk_t, y_cl]
  · simp (disch := omega) only [f_X8_restOf, q2, q3, q4, q5, c_at, xb1_s, y_in, xk_t, y_cl, a3, a4, a5, a6]
    rw [y_wsub (by omega) (by omega), y_wsub (by omega) (by omega), y_wsub (by omega) (by omega)]
  · rw [y_sub (by omega) (by omega), e2]
theorem c_disputed {pn n : Nat} {C : sCla} {s : xF64} (h : RC n C s) (v : VC pn n C) {fu : Nat} (hfu : 20 < fu) : ∃ S, f_X1_sumInDispute fu C = some S ∧ f_X8_disputed fu s = some S ∧ 0 ≤ S.toInt ∧ S.toInt ≤ 1200000000 ∧ (n = 0 → S = 0) := by
  have hn := h.1
  have hb := ysum_rng (f := fun k => (C.2.2.2.1 k - C.2.2.2.2.2.2 k).toInt64) (c := 100000000) (by omega) (n := n) (by omega) (fun k hk => by
    obtain ⟨-, v2, v3, v4, v5, v6⟩ := v k hk
    rw [y_w, y_sub (by omega) (by omega)]
    omega)
  refine ⟨_, ?_, ?_, hb.1, by omega, ?_⟩
  · refine ylp (fun m acc y => f_X1_sumInDispute_4 fu C m acc y) (fun i => ysum (fun k => (C.2.2.2.1 k - C.2.2.2.2.2.2 k).toInt64) i) n ?_ ?_ (by omega)
    · intro m acc
      simp (disch := omega) only [f_X1_sumInDispute_4, h.2.1, y_self, if_true]
    · intro m i hi
      simp (disch := omega) only [f_X1_sumInDispute_4, h.2.1, y_nge, if_false, y_in, xk_t, y_cl, nI_1, ysum]
  · refine ylp (fun m acc y => f_X8_disputed_4 fu s m acc y) (fun i => ysum (fun k => (C.2.2.2.1 k - C.2.2.2.2.2.2 k).toInt64) i) n ?_ ?_ (by omega)
    · intro m acc
      simp (disch := omega) only [f_X8_disputed_4, c_claims h, xb1_s, y_self, if_true]
    · intro m i hi
      obtain ⟨a1, a2, a3, a4, a5, a6⟩ := h.2.2.2.1 i hi
      obtain ⟨-, v2, v3, v4, v5, v6⟩ := v i hi
      simp (disch := omega) only [f_X8_disputed_4, c_claims h, xb1_s, y_nge, if_false, q2, q5, c_at, y_in, xk_t, y_cl, a3, a6, nI_1, ysum]
      rw [y_wsub (by omega) (by omega)]
  · rintro rfl; rfl
theorem c_allLeft {pn n : Nat} {C : sCla} {s : xF64} (h : RC n C s) (v : VC pn n C) {fu : Nat} (hfu : 20 < fu) : ∃ S, f_X1_allLeft fu C = some S ∧ f_X8_rests fu s = some S := by
  have hn := h.1
  have hl : ∀ k, k < n → ∃ L : Int32, f_X1_leftOf (nI k) C = some L ∧ f_X8_restOf (nI k) s = some L.toInt64 := fun k hk => by
    obtain ⟨L, h1, h2, h3⟩ := c_left h v hk
    exact ⟨L, h1, h2⟩
  let g : Nat → Int64 := fun k => ((f_X1_leftOf (nI k) C).getD 0).toInt64
  refine ⟨ysum g n, ?_, ?_⟩
  · refine ylp (fun m acc y => f_X1_allLeft_4 fu C m acc y) (fun i => ysum g i) n ?_ ?_ (by omega)
    · intro m acc
      simp (disch := omega) only [f_X1_allLeft_4, h.2.1, y_self, if_true]
    · intro m i hi
      obtain ⟨L, h1, h2⟩ := hl i hi
      have hg : g i = L.toInt64 := by simp only [g, h1, Option.getD_some]
      simp (disch := omega) only [f_X1_allLeft_4, h.2.1, y_nge, if_false, h1, xb1_s, nI_1, ysum, hg]
  · refine ylp (fun m acc y => f_X8_rests_4 fu s m acc y) (fun i => ysum g i) n ?_ ?_ (by omega)
    · intro m acc
      simp (disch := omega) only [f_X8_rests_4, c_claims h, xb1_s, y_self, if_true]
    · intro m i hi
      obtain ⟨L, h1, h2⟩ := hl i hi
      have hg : g i = L.toInt64 := by simp only [g, h1, Option.getD_some]
      simp (disch := omega) only [f_X8_rests_4, c_claims h, xb1_s, y_nge, if_false, h2, nI_1, ysum, hg]
abbrev yL (P : sPar) (C : sCla) (x : Int32) : Nat → Int64 := fun k => if P.2.1 (C.2.1 k).toNatClampNeg = x then (C.2.2.2.2.2.1 k).toInt64 else (C.2.2.2.2.1 k).toInt64
theorem c_isOf {pn n : Nat} {P : sPar} {C : sCla} (hp : pn ≤ 6) (hn : n ≤ 12) (v : VC pn n C) {i : Nat} (hi : i < n) (x : Int32) : f_X0_isClaimOf (nI i) x P C = some (if P.2.1 (C.2.1 i).toNatClampNeg = x then 1 else 0) := by
  obtain ⟨⟨a, b, ha, hb, hab, e1, e2⟩, v2⟩ := v i hi
  simp (disch := omega) only [f_X0_isClaimOf, y_in, xk_t, y_cl, e1]
  by_cases hc : P.2.1 a = x
  · rw [if_pos hc, if_pos hc]
  · rw [if_neg hc, if_neg hc]
theorem c_lost {pn n : Nat} {P : sPar} {C : sCla} {s : xF64} (hP : RP pn P s) (h : RC n C s) (v : VC pn n C) {fu : Nat} (hfu : 20 < fu) (x : Int32) : ∃ S, f_X0_lostBy fu x P C = some S ∧ f_X8_lostBy fu x s = some S ∧ 0 ≤ S.toInt ∧ S.toInt ≤ 1200000000 := by
  have hn := h.1
  have hp := hP.1
  have hb := ysum_rng (f := yL P C x) (c := 100000000) (by omega) (n := n) (by omega) (fun k hk => by
    obtain ⟨-, v2, v3, v4, v5, v6⟩ := v k hk
    by_cases hc : P.2.1 (C.2.1 k).toNatClampNeg = x
    · rw [show yL P C x k = _ from if_pos hc, y_w]
      omega
    · rw [show yL P C x k = _ from if_neg hc, y_w]
      omega)
  have o : ((1 : Int32) = 0) = False := eq_false (by decide)
  refine ⟨_, ?_, ?_, hb.1, by omega⟩
  · refine ylp (fun m acc y => f_X0_lostBy_5 fu P C m x acc y) (fun i => ysum (yL P C x) i) n ?_ ?_ (by omega)
    · intro m acc
      simp (disch := omega) only [f_X0_lostBy_5, h.2.1, y_self, if_true]
    · intro m i hi
      by_cases hc : P.2.1 (C.2.1 i).toNatClampNeg = x
      · simp (disch := omega) only [f_X0_lostBy_5, h.2.1, y_nge, if_false, c_isOf hp hn v hi, hc, if_true, xb1_s, o, y_in, xk_t, y_cl, nI_1, ysum, yL]
      · simp (disch := omega) only [f_X0_lostBy_5, h.2.1, y_nge, if_false, c_isOf hp hn v hi, hc, if_true, xb1_s, y_in, xk_t, y_cl, nI_1, ysum, yL]
  · refine ylp (fun m acc y => f_X8_lostBy_5 fu s m x acc y) (fun i => ysum (yL P C x) i) n ?_ ?_ (by omega)
    · intro m acc
      simp (disch := omega) only [f_X8_lostBy_5, c_claims h, xb1_s, y_self, if_true]
    · intro m i hi
      obtain ⟨a1, a2, a3, a4, a5, a6⟩ := h.2.2.2.1 i hi
      obtain ⟨⟨a, b, ha, hb, hab, e1, e2⟩, v2⟩ := v i hi
      have ep := (hP.2.2.2.1 a ha).1
      have ea : f_X8_claimAt (nI i) 0 = some (nI (50 + 6 * i)) := c_at i 0
      by_cases hc : P.2.1 a = x
      · simp (disch := omega) only [f_X8_lostBy_5, c_claims h, xb1_s, y_nge, if_false, ea, q4, q14, c_at, y_in, xk_t, y_cl, a1, a5, e1, y_wn, nI_add, ep, y_weq, hc, if_true, nI_1, ysum, yL]
      · simp (disch := omega) only [f_X8_lostBy_5, c_claims h, xb1_s, y_nge, if_false, ea, q3, q14, c_at, y_in, xk_t, y_cl, a1, a4, e1, y_wn, nI_add, ep, y_weq, hc, nI_1, ysum, yL]
theorem ylpG {α β : Type} (F : Nat → α → Int32 → β) (S : Nat → α) (N : Nat) (R : β) (hend : ∀ m, F (m + 1) (S N) (nI N) = R) (hstep : ∀ m i, i < N → F (m + 1) (S i) (nI i) = F m (S (i + 1)) (nI (i + 1))) {fu : Nat} (hfu : N < fu) : F fu (S 0) 0 = R := by
  have key : ∀ j i m, i + j = N → j < m → F m (S i) (nI i) = R := by
    intro j
    induction j with
    | zero =>
      intro i m hi hm
      have hi' : i = N := by omega
      subst hi'
      obtain ⟨m', rfl⟩ : ∃ m', m = m' + 1 := ⟨m - 1, by omega⟩
      exact hend m'
    | succ j ih =>
      intro i m hi hm
      obtain ⟨m', rfl⟩ : ∃ m', m = m' + 1 := ⟨m - 1, by omega⟩
      rw [hstep m' i (by omega)]
      exact ih (i + 1) m' (by omega) (by omega)
  have h0 : (0 : Int32) = nI 0 := nI_0.symm
  rw [h0]
  exact key N 0 fu (by omega) (by omega)
abbrev yUp (P : sPar) (C : sCla) (x : Int32) : Nat → Int64 := fun k => if P.2.1 (C.2.1 k).toNatClampNeg = x then (C.2.2.2.2.1 k).toInt64 else 0
abbrev yLo (P : sPar) (C : sCla) (x : Int32) : Nat → Int64 := fun k => if P.2.1 (C.2.1 k).toNatClampNeg = x then (C.2.2.2.1 k - C.2.2.2.2.2.2 k).toInt64 else 0
theorem c_quota {pn n : Nat} {P : sPar} {C : sCla} {s : xF64} (hP : RP pn P s) (h : RC n C s) (v : VC pn n C) {fu : Nat} (hfu : 20 < fu) (x : Int32) : ∃ U L, f_X0_awardedTo fu x P C = some U ∧ f_X0_soughtBy fu x P C = some L ∧ ∀ z : Int32, f_X8_quota fu x z s = xb1 (f_X8_in x 0 1) fun v4 => (if v4 = 0 then (some (FP.dconst0, 1)) else (if L = 0 then (some (FP.dconst0, 2)) else (xk (xn64 (FP.ddiv (FP.l2d U) (FP.l2d L))) (some ((FP.ddiv (FP.l2d U) (FP.l2d L)), 0))))) := by
  have hn := h.1
  have hp := hP.1
  have o : ((1 : Int32) = 0) = False := eq_false (by decide)
  refine ⟨ysum (yUp P C x) n, ysum (yLo P C x) n, ?_, ?_, ?_⟩
  · refine ylp (fun m acc y => f_X0_awardedTo_5 fu P C m x acc y) (fun i => ysum (yUp P C x) i) n ?_ ?_ (by omega)
    · intro m acc
      simp (disch := omega) only [f_X0_awardedTo_5, h.2.1, y_self, if_true]
    · intro m i hi
      by_cases hc : P.2.1 (C.2.1 i).toNatClampNeg = x
      · simp (disch := omega) only [f_X0_awardedTo_5, h.2.1, y_nge, if_false, c_isOf hp hn v hi, hc, if_true, xb1_s, o, y_in, xk_t, y_cl, nI_1, ysum, yUp]
      · simp (disch := omega) only [f_X0_awardedTo_5, h.2.1, y_nge, if_false, c_isOf hp hn v hi, hc, if_true, xb1_s, y_in, xk_t, y_cl, nI_1, ysum, yUp]
  · refine ylp (fun m acc y => f_X0_soughtBy_5 fu P C m x acc y) (fun i => ysum (yLo P C x) i) n ?_ ?_ (by omega)
    · intro m acc
      simp (disch := omega) only [f_X0_soughtBy_5, h.2.1, y_self, if_true]
    · intro m i hi
      by_cases hc : P.2.1 (C.2.1 i).toNatClampNeg = x
      · simp (disch := omega) only [f_X0_soughtBy_5, h.2.1, y_nge, if_false, c_isOf hp hn v hi, hc, if_true, xb1_s, o, y_in, xk_t, y_cl, nI_1, ysum, yLo]
      · simp (disch := omega) only [f_X0_soughtBy_5, h.2.1, y_nge, if_false, c_isOf hp hn v hi, hc, if_true, xb1_s, y_in, xk_t, y_cl, nI_1, ysum, yLo]
  · intro z
    refine ylpG (fun m (acc : Int64 × Int64) y => f_X8_quota_8 fu s m x acc.1 acc.2 y z) (fun i => (ysum (yUp P C x) i, ysum (yLo P C x) i)) n _ ?_ ?_ (by omega)
    · intro m
      simp (disch := omega) only [f_X8_quota_8, c_claims h, xb1_s, y_self, if_true]
    · intro m i hi
      obtain ⟨a1, a2, a3, a4, a5, a6⟩ := h.2.2.2.1 i hi
      obtain ⟨⟨a, b, ha, hb, hab, e1, e2⟩, v2, v3, v4, v5, v6⟩ := v i hi
      have ep := (hP.2.2.2.1 a ha).1
      have ea : f_X8_claimAt (nI i) 0 = some (nI (50 + 6 * i)) := c_at i 0
      have e3 : f_X8_claimAt (nI i) 2 = some (nI (50 + 6 * i + 2)) := c_at i 2
      have e4 : f_X8_claimAt (nI i) 3 = some (nI (50 + 6 * i + 3)) := c_at i 3
      have e5 : f_X8_claimAt (nI i) 5 = some (nI (50 + 6 * i + 5)) := c_at i 5
      have ew : (C.2.2.2.1 i - C.2.2.2.2.2.2 i).toInt64 = (C.2.2.2.1 i).toInt64 - (C.2.2.2.2.2.2 i).toInt64 := y_wsub (by omega) (by omega)
      by_cases hc : P.2.1 a = x
      · simp (disch := omega) only [f_X8_quota_8, c_claims h, xb1_s, y_nge, if_false, ea, e3, e4, e5, q14, y_in, xk_t, y_cl, a1, a3, a4, a6, e1, y_wn, nI_add, ep, y_weq, hc, if_true, nI_1, ysum, yUp, yLo, ew]
      · simp (disch := omega) only [f_X8_quota_8, c_claims h, xb1_s, y_nge, if_false, ea, q14, y_in, xk_t, y_cl, a1, e1, y_wn, nI_add, ep, y_weq, hc, nI_1, ysum, yUp, yLo]
theorem c_row {n : Nat} {C : sCla} {s : xF64} (h : RC n C s) {i : Nat} (hi : i < n) : ∀ w, w < 6 → ∃ v, f_X1_numberOf (nI i) (nI w) C = some v ∧ s (50 + 6 * i + w) = v.toInt64 := by
  have hn := h.1
  obtain ⟨a1, a2, a3, a4, a5, a6⟩ := h.2.2.2.1 i hi
  intro w hw
  have x0 : xin (nI i) 12 = true := y_in (by omega) (by omega)
  have x1 : (nI i).toNatClampNeg = i := y_cl (by omega)
  obtain rfl | rfl | rfl | rfl | rfl | rfl : w = 0 ∨ w = 1 ∨ w = 2 ∨ w = 3 ∨ w = 4 ∨ w = 5 := by omega
  · refine ⟨_, ?_, a1⟩
    show f_X1_numberOf (nI i) 0 C = _
    unfold f_X1_numberOf
    rw [if_pos rfl, y_xk x0, x1]
  · refine ⟨_, ?_, a2⟩
    show f_X1_numberOf (nI i) 1 C = _
    unfold f_X1_numberOf
    rw [if_neg (by decide), if_pos rfl, y_xk x0, x1]
  · refine ⟨_, ?_, a3⟩
    show f_X1_numberOf (nI i) 2 C = _
    unfold f_X1_numberOf
    rw [if_neg (by decide), if_neg (by decide), if_pos rfl, y_xk x0, x1]
  · refine ⟨_, ?_, a4⟩
    show f_X1_numberOf (nI i) 3 C = _
    unfold f_X1_numberOf
    rw [if_neg (by decide), if_neg (by decide), if_neg (by decide), if_pos rfl, y_xk x0, x1]
  · refine ⟨_, ?_, a5⟩
    show f_X1_numberOf (nI i) 4 C = _
    unfold f_X1_numberOf
    rw [if_neg (by decide), if_neg (by decide), if_neg (by decide), if_neg (by decide), if_pos rfl, y_xk x0, x1]
  · refine ⟨_, ?_, a6⟩
    show f_X1_numberOf (nI i) 5 C = _
    unfold f_X1_numberOf
    rw [if_neg (by decide), if_neg (by decide), if_neg (by decide), if_neg (by decide), if_neg (by decide), if_pos rfl, y_xk x0, x1]
theorem c_add {n : Nat} {C : sCla} {s t : xF64} (h : RC n C s) (hn : n < 12) (x1 x2 x3 : Int32) (t3 : t 3 = lN (n + 1)) (ta : t (50 + 6 * n) = x1.toInt64) (tb : t (50 + 6 * n + 1) = x2.toInt64) (tc : t (50 + 6 * n + 2) = x3.toInt64) (hf : ∀ k, k ≠ 3 → k ≠ 50 + 6 * n → k ≠ 50 + 6 * n + 1 → k ≠ 50 + 6 * n + 2 → t k = s k) : ∃ C', f_X1_addOne x1 x2 x3 C = some (nI n, C') ∧ RC (n + 1) C' t ∧ C'.2.1 n = x1 ∧ C'.2.2.1 n = x2 ∧ C'.2.2.2.1 n = x3 ∧ C'.2.2.2.2.1 n = 0 ∧ C'.2.2.2.2.2.1 n = 0 ∧ C'.2.2.2.2.2.2 n = 0 ∧ ∀ k, k ≠ n → C'.2.1 k = C.2.1 k ∧ C'.2.2.1 k = C.2.2.1 k ∧ C'.2.2.2.1 k = C.2.2.2.1 k ∧ C'.2.2.2.2.1 k = C.2.2.2.2.1 k ∧ C'.2.2.2.2.2.1 k = C.2.2.2.2.2.1 k ∧ C'.2.2.2.2.2.2 k = C.2.2.2.2.2.2 k := by
  obtain ⟨h1, h2, h3, h4, h5⟩ := h
  have hlt : nI n < 12 := nI_lt hn (by decide)
  refine ⟨(nI (n + 1), upd C.2.1 n x1, upd C.2.2.1 n x2, upd C.2.2.2.1 n x3, upd C.2.2.2.2.1 n 0, upd C.2.2.2.2.2.1 n 0, upd C.2.2.2.2.2.2 n 0), ?_, ⟨by omega, rfl, t3, ?_, ?_⟩, pk_us, pk_us, pk_us, pk_us, pk_us, pk_us, ?_⟩
  · simp (disch := omega) only [f_X1_addOne, h2, hlt, if_true, y_in, xk_t, y_cl, nI_1]
  · intro k hk
    by_cases e : k = n
    · subst e
      have g := h5 k (by omega) (by omega)
      simp only [pk_us]
      refine ⟨ta, tb, tc, ?_, ?_, ?_⟩
      · rw [hf _ (by omega) (by omega) (by omega) (by omega)]; exact g.1
      · rw [hf _ (by omega) (by omega) (by omega) (by omega)]; exact g.2.1
      · rw [hf _ (by omega) (by omega) (by omega) (by omega)]; exact g.2.2
    · simp (disch := omega) only [pk_un]
      rw [hf _ (by omega) (by omega) (by omega) (by omega), hf _ (by omega) (by omega) (by omega) (by omega), hf _ (by omega) (by omega) (by omega) (by omega), hf _ (by omega) (by omega) (by omega) (by omega), hf _ (by omega) (by omega) (by omega) (by omega), hf _ (by omega) (by omega) (by omega) (by omega)]
      exact h4 k (by omega)
  · intro k hk hk2
    rw [hf _ (by omega) (by omega) (by omega) (by omega), hf _ (by omega) (by omega) (by omega) (by omega), hf _ (by omega) (by omega) (by omega) (by omega)]
    exact h5 k (by omega) hk2
  · intro k hk
    simp (disch := omega) only [pk_un]
    exact ⟨trivial, trivial, trivial, trivial, trivial, trivial⟩
theorem c_set3 {n : Nat} {C : sCla} {s : xF64} (h : RC n C s) {i : Nat} (hi : i < n) (v : Int32) : RC n (C.1, C.2.1, C.2.2.1, C.2.2.2.1, upd C.2.2.2.2.1 i v, C.2.2.2.2.2.1, C.2.2.2.2.2.2) (vp_updL s (50 + 6 * i + 3) v.toInt64) := by
  obtain ⟨h1, h2, h3, h4, h5⟩ := h
  refine ⟨h1, h2, by rw [y_un (by omega)]; exact h3, fun k hk => ?_, fun k hk hk6 => ?_⟩
  · by_cases e : k = i
    · subst e
      simp (disch := omega) only [y_un, y_us, pk_us]
      obtain ⟨a1, a2, a3, a4, a5, a6⟩ := h4 k hk
      exact ⟨a1, a2, a3, trivial, a5, a6⟩
    · simp (disch := omega) only [y_un, pk_un]
      exact h4 k hk
  · simp (disch := omega) only [y_un]
    exact h5 k hk hk6
theorem c_set4 {n : Nat} {C : sCla} {s : xF64} (h : RC n C s) {i : Nat} (hi : i < n) (v : Int32) : RC n (C.1, C.2.1, C.2.2.1, C.2.2.2.1, C.2.2.2.2.1, upd C.2.2.2.2.2.1 i v, C.2.2.2.2.2.2) (vp_updL s (50 + 6 * i + 4) v.toInt64) := by
  obtain ⟨h1, h2, h3, h4, h5⟩ := h
  refine ⟨h1, h2, by rw [y_un (by omega)]; exact h3, fun k hk => ?_, fun k hk hk6 => ?_⟩
  · by_cases e : k = i
    · subst e
      simp (disch := omega) only [y_un, y_us, pk_us]
      obtain ⟨a1, a2, a3, a4, a5, a6⟩ := h4 k hk
      exact ⟨a1, a2, a3, a4, trivial, a6⟩
    · simp (disch := omega) only [y_un, pk_un]
      exact h4 k hk
  · simp (disch := omega) only [y_un]
    exact h5 k hk hk6
theorem c_set5 {n : Nat} {C : sCla} {s : xF64} (h : RC n C s) {i : Nat} (hi : i < n) (v : Int32) : RC n (C.1, C.2.1, C.2.2.1, C.2.2.2.1, C.2.2.2.2.1, C.2.2.2.2.2.1, upd C.2.2.2.2.2.2 i v) (vp_updL s (50 + 6 * i + 5) v.toInt64) := by
  obtain ⟨h1, h2, h3, h4, h5⟩ := h
  refine ⟨h1, h2, by rw [y_un (by omega)]; exact h3, fun k hk => ?_, fun k hk hk6 => ?_⟩
  · by_cases e : k = i
    · subst e
      simp (disch := omega) only [y_un, y_us, pk_us]
      obtain ⟨a1, a2, a3, a4, a5, a6⟩ := h4 k hk
      exact ⟨a1, a2, a3, a4, a5, trivial⟩
    · simp (disch := omega) only [y_un, pk_un]
      exact h4 k hk
  · simp (disch := omega) only [y_un]
    exact h5 k hk hk6
