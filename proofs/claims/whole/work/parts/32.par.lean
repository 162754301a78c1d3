-- parties
theorem xk_t {α : Type} (x : Option α) : xk true x = x := rfl
theorem xb1_s {α ρ : Type} (a : α) (k : α → Option ρ) : xb1 (some a) k = k a := rfl
theorem xb2_s {α β ρ : Type} (a : α) (b : β) (k : α → β → Option ρ) : xb2 (some (a, b)) k = k a b := rfl
theorem xb3_s {α β γ ρ : Type} (a : α) (b : β) (c : γ) (k : α → β → γ → Option ρ) : xb3 (some (a, b, c)) k = k a b c := rfl
theorem xb4_s {α β γ δ ρ : Type} (a : α) (b : β) (c : γ) (d : δ) (k : α → β → γ → δ → Option ρ) : xb4 (some (a, b, c, d)) k = k a b c d := rfl
theorem y_nge {a b : Nat} (h : a < b) (hb : b < 2 ^ 31) : (nI b ≤ nI a) = False := eq_false (nI_ge h hb)
theorem y_le_t {a b : Nat} (h : a ≤ b) (hb : b < 2 ^ 31) : (nI a ≤ nI b) = True := eq_true (nI_le h hb)
theorem p_parties {n : Nat} {P : sPar} {s : xF64} (h : RP n P s) : f_X8_parties s = some (nI n) := by
  simp (disch := omega) only [f_X8_parties, q2, y_in, xk_t, y_cl, h.2.2.1, lN_i]
theorem p_has {n : Nat} {P : sPar} {s : xF64} (h : RP n P s) (x : Int32) : ∃ b, f_X4_has x P = some b ∧ f_X8_isParty x s = some b ∧ (b = 0 ∨ (b = 1 ∧ ∃ i, i < n ∧ x = nI i)) := by
  have hn := h.1
  obtain ⟨b, h1, h2, h3⟩ := y_has x (c := n) (by omega)
  refine ⟨b, ?_, ?_, h3⟩
  · rw [← h1]; unfold f_X4_has; rw [h.2.1]
  · rw [← h2]; unfold f_X8_isParty; rw [p_parties h]; rfl
theorem p_held {n : Nat} {P : sPar} {s : xF64} (h : RP n P s) {i : Nat} (hi : i < n) : f_X4_heldFor (nI i) P = some (P.2.2.2.2.1 i - P.2.2.2.2.2.1 i - P.2.2.2.2.2.2 i) ∧ f_X8_held (nI i) s = some (P.2.2.2.2.1 i - P.2.2.2.2.2.1 i - P.2.2.2.2.2.2 i) := by
  have hn := h.1
  obtain ⟨a1, a2, a3, a4, a5, a6⟩ := h.2.2.2.1 i hi
  refine ⟨?_, ?_⟩
  · simp (disch := omega) only [f_X4_heldFor, y_in, xk_t, y_cl]
  · simp (disch := omega) only [f_X8_held, q2, q14, q20, q26, q32, q38, q44, nI_add, y_in, xk_t, y_cl, a4, a5, a6]
theorem p_short {n : Nat} {P : sPar} {s : xF64} (h : RP n P s) {K : Int} (hK : K ≤ 20000) (v : VP K n P) {i : Nat} (hi : i < n) : f_X4_shortOf (nI i) P = some (xmaxL 0 (P.2.2.2.1 i - P.2.2.2.2.1 i)) ∧ f_X8_shortBy (nI i) s = some (xmaxL 0 (P.2.2.2.1 i - P.2.2.2.2.1 i)) := by
  have hn := h.1
  obtain ⟨a1, a2, a3, a4, a5, a6⟩ := h.2.2.2.1 i hi
  obtain ⟨v1, v2, v3, v4, v5, v6, v7⟩ := v i hi
  refine ⟨?_, ?_⟩
  · simp (disch := omega) only [f_X4_shortOf, y_in, xk_t, y_cl]
  · simp (disch := omega) only [f_X8_shortBy, q2, q14, q20, q26, q32, q38, q44, nI_add, y_in, xk_t, y_cl, a3, a4]
    rw [y_max0]
    have e : (P.2.2.2.1 i - P.2.2.2.2.1 i ≤ 0) ↔ P.2.2.2.1 i ≤ P.2.2.2.2.1 i := by
      rw [y_le64, y_le64, y_subL (by omega) (by omega), y_z]
      omega
    by_cases hc : P.2.2.2.1 i ≤ P.2.2.2.2.1 i
    · rw [if_pos hc, if_pos (e.mpr hc)]
    · rw [if_neg hc, if_neg (fun q => hc (e.mp q))]
theorem y_nge' {a b : Nat} (h : a < b) (hb : b < 2 ^ 31) : ¬ nI b ≤ nI a := nI_ge h hb
theorem y_self {a : Nat} (h : a < 2 ^ 31) : nI a ≤ nI a := nI_le (Nat.le_refl a) h
abbrev yW (P : sPar) (x : Int32) : Nat → Int32 := fun k => if P.2.1 k = x then P.2.2.1 k else 0
theorem p_weightOn {n : Nat} {P : sPar} {s : xF64} (h : RP n P s) {fu : Nat} (hfu : 10 < fu) (x : Int32) : f_X4_weightOn fu x P = some (ysumI (yW P x) n) := by
  have hn := h.1
  refine ylp (fun m acc y => f_X4_weightOn_4 fu P m x acc y) (fun i => ysumI (yW P x) i) n ?_ ?_ (by omega)
  · intro m acc
    simp (disch := omega) only [f_X4_weightOn_4, h.2.1, y_self, if_true]
  · intro m i hi
    by_cases hc : P.2.1 i = x
    · simp (disch := omega) only [f_X4_weightOn_4, h.2.1, y_nge, if_false, y_in, xk_t, y_cl, hc, if_true, nI_1, ysumI, yW]
    · simp (disch := omega) only [f_X4_weightOn_4, h.2.1, y_nge, if_false, y_in, xk_t, y_cl, hc, nI_1, ysumI, yW]
theorem p_weights {n : Nat} {P : sPar} {s : xF64} (h : RP n P s) {K : Int} (v : VP K n P) {fu : Nat} (hfu : 10 < fu) (x : Int32) : f_X8_weights fu x s = some (ysumI (yW P x) n).toInt64 ∧ 0 ≤ (ysumI (yW P x) n).toInt ∧ (ysumI (yW P x) n).toInt ≤ 54 := by
  have hn := h.1
  have hw : ∀ k, k < n → 0 ≤ (yW P x k).toInt ∧ (yW P x k).toInt ≤ 9 := fun k hk => by
    obtain ⟨v1, v2, v3⟩ := v k hk
    by_cases hc : P.2.1 k = x
    · have : yW P x k = P.2.2.1 k := if_pos hc
      rw [this]; omega
    · have : yW P x k = 0 := if_neg hc
      rw [this]; decide
  have hs := ysumI_w (c := 9) (by omega) (n := n) (by omega) hw
  refine ⟨?_, hs.2.1, by omega⟩
  rw [hs.1]
  refine ylp (fun m acc y => f_X8_weights_5 fu s m x acc y) (fun i => ysum (fun k => (yW P x k).toInt64) i) n ?_ ?_ (by omega)
  · intro m acc
    simp (disch := omega) only [f_X8_weights_5, p_parties h, xb1_s, y_self, if_true]
  · intro m i hi
    obtain ⟨a1, a2, a3⟩ := h.2.2.2.1 i hi
    by_cases hc : P.2.1 i = x
    · simp (disch := omega) only [f_X8_weights_5, p_parties h, xb1_s, y_nge, if_false, q14, q20, nI_add, y_in, xk_t, y_cl, a1, a2, y_weq, hc, if_true, nI_1, ysum, yW]
    · simp (disch := omega) only [f_X8_weights_5, p_parties h, xb1_s, y_nge, if_false, q14, q20, nI_add, y_in, xk_t, y_cl, a1, a2, y_weq, hc, nI_1, ysum, yW]
      rfl
theorem p_part_loop {n : Nat} {P : sPar} {s : xF64} (h : RP n P s) {fu : Nat} (x1 : Int64) {i : Nat} (hi : i < n) (sd W : Int32) (hW : W.toInt64 ≠ 0) : ∀ j l m (r : Int64) (c : Int32), j + l = n → l < m → ∃ v, f_X4_partOf_32 fu P m x1 (nI i) sd W r c (nI j) = some v ∧ f_X8_split_29 fu s m x1 (nI i) sd W.toInt64 r c (nI j) = some v ∧ (v = (x1 * (P.2.2.1 i).toInt64) / W.toInt64 + 0 ∨ v = (x1 * (P.2.2.1 i).toInt64) / W.toInt64 + 1) := by
  have hn := h.1
  obtain ⟨b1, b2, b3⟩ := h.2.2.2.1 i hi
  intro j l
  induction l generalizing j with
  | zero =>
    intro m r c hj hm
    obtain ⟨m, rfl⟩ : ∃ m', m = m' + 1 := ⟨m - 1, by omega⟩
    have hj' : j = n := by omega
    subst hj'
    by_cases hc : r ≤ c.toInt64
    · refine ⟨(x1 * (P.2.2.1 i).toInt64) / W.toInt64 + 0, ?_, ?_, .inl rfl⟩
      · simp (disch := omega) only [f_X4_partOf_32, h.2.1, y_self, if_true, y_in, xk_t, y_cl, y_nzl hW, hc]
      · simp (disch := omega) only [f_X8_split_29, p_parties h, xb1_s, y_self, if_true, q20, nI_add, y_in, xk_t, y_cl, y_nzl hW, hc, b2]
    · refine ⟨(x1 * (P.2.2.1 i).toInt64) / W.toInt64 + 1, ?_, ?_, .inr rfl⟩
      · simp (disch := omega) only [f_X4_partOf_32, h.2.1, y_self, if_true, y_in, xk_t, y_cl, y_nzl hW, hc, if_false]
      · simp (disch := omega) only [f_X8_split_29, p_parties h, xb1_s, y_self, if_true, q20, nI_add, y_in, xk_t, y_cl, y_nzl hW, hc, b2, if_false]
  | succ l ih =>
    intro m r c hj hm
    obtain ⟨m, rfl⟩ : ∃ m', m = m' + 1 := ⟨m - 1, by omega⟩
    obtain ⟨a1, a2, a3⟩ := h.2.2.2.1 j (by omega)
    by_cases hc : P.2.1 j = sd
    · by_cases hle : nI i ≤ nI j
      · obtain ⟨v, h1, h2, h3⟩ := ih (j + 1) m (r - ((x1 * (P.2.2.1 j).toInt64) / W.toInt64)) (c + 0) (by omega) (by omega)
        refine ⟨v, ?_, ?_, h3⟩
        · rw [← h1]
          simp (disch := omega) only [f_X4_partOf_32, h.2.1, y_nge, if_false, y_in, xk_t, y_cl, y_nzl hW, hc, if_true, hle, nI_1]
        · rw [← h2]
          simp (disch := omega) only [f_X8_split_29, p_parties h, xb1_s, y_nge, if_false, q14, q20, nI_add, y_in, xk_t, y_cl, y_nzl hW, a1, a2, y_weq, hc, if_true, hle, nI_1]
      · obtain ⟨v, h1, h2, h3⟩ := ih (j + 1) m (r - ((x1 * (P.2.2.1 j).toInt64) / W.toInt64)) (c + 1) (by omega) (by omega)
        refine ⟨v, ?_, ?_, h3⟩
        · rw [← h1]
          simp (disch := omega) only [f_X4_partOf_32, h.2.1, y_nge, if_false, y_in, xk_t, y_cl, y_nzl hW, hc, if_true, hle, nI_1]
        · rw [← h2]
          simp (disch := omega) only [f_X8_split_29, p_parties h, xb1_s, y_nge, if_false, q14, q20, nI_add, y_in, xk_t, y_cl, y_nzl hW, a1, a2, y_weq, hc, if_true, hle, nI_1]
    · obtain ⟨v, h1, h2, h3⟩ := ih (j + 1) m r c (by omega) (by omega)
      refine ⟨v, ?_, ?_, h3⟩
      · rw [← h1]
        simp (disch := omega) only [f_X4_partOf_32, h.2.1, y_nge, if_false, y_in, xk_t, y_cl, y_nzl hW, hc, nI_1]
      · rw [← h2]
        simp (disch := omega) only [f_X8_split_29, p_parties h, xb1_s, y_nge, if_false, q14, q20, nI_add, y_in, xk_t, y_cl, y_nzl hW, a1, a2, y_weq, hc, nI_1]
/-- a party's part of an amount -/
theorem p_partOf {n : Nat} {P : sPar} {s : xF64} (h : RP n P s) {K : Int} (vP : VP K n P) {fu : Nat} (hfu : 10 < fu) (x1 : Int64) {i : Nat} (hi : i < n) : ∃ v, f_X4_partOf fu x1 (nI i) P = some v ∧ f_X8_split fu x1 (nI i) s = some v ∧ (0 ≤ x1.toInt → x1.toInt ≤ 1000000000000 → 0 ≤ v.toInt ∧ v.toInt ≤ x1.toInt + 1) := by
  have hn := h.1
  obtain ⟨b1, b2, b3⟩ := h.2.2.2.1 i hi
  obtain ⟨w1, w2, w3⟩ := p_weights h vP hfu (P.2.1 i)
  have hwi : yW P (P.2.1 i) i = P.2.2.1 i := if_pos rfl
  have hw : ∀ k, k < n → 0 ≤ (yW P (P.2.1 i) k).toInt ∧ (yW P (P.2.1 i) k).toInt ≤ 9 := fun k hk => by
    obtain ⟨v1, v2, v3⟩ := vP k hk
    by_cases hc : P.2.1 k = P.2.1 i
    · have : yW P (P.2.1 i) k = P.2.2.1 k := if_pos hc
      rw [this]; omega
    · have : yW P (P.2.1 i) k = 0 := if_neg hc
      rw [this]; decide
  have hS := ysumI_w (c := 9) (by omega) (n := n) (by omega) hw
  have hge := ysum_ge (f := fun k => (yW P (P.2.1 i) k).toInt64) (c := 9) (by omega) (n := n) (by omega) (fun k hk => by rw [y_w]; exact hw k hk) i hi
  rw [← hS.1] at hge
  have hge' : (P.2.2.1 i).toInt ≤ (ysumI (yW P (P.2.1 i)) n).toInt := by
    simp only [y_w] at hge
    rw [hwi] at hge
    exact hge
  have vi := (vP i hi).2.1
  generalize hWd : ysumI (yW P (P.2.1 i)) n = W at *
  have hW : W.toInt64 ≠ 0 := by
    intro q
    have := congrArg Int64.toInt q
    rw [y_w, y_z] at this
    omega
  have hWp : (0 : Int32) < W := by
    rw [y_lt32]
    have : (0 : Int32).toInt = 0 := rfl
    omega
  obtain ⟨v, h1, h2, h3⟩ := p_part_loop h (fu := fu) x1 hi (P.2.1 i) W hW 0 n fu x1 0 (by omega) (by omega)
  refine ⟨v, ?_, ?_, ?_⟩
  · rw [← h1]
    simp (disch := omega) only [f_X4_partOf, y_in, xk_t, y_cl, p_weightOn h hfu, hWd, xb1_s, hWp, if_true]
    rfl
  · rw [← h2]
    simp (disch := omega) only [f_X8_split, q14, nI_add, y_in, xk_t, y_cl, b1, y_wn, w1, xb1_s]
    rfl
  · intro g1 g2
    have e1 : (x1 * (P.2.2.1 i).toInt64).toInt = x1.toInt * (P.2.2.1 i).toInt := by
      have hm : x1.toInt * (P.2.2.1 i).toInt ≤ 1000000000000 * 9 := Int.mul_le_mul g2 vi.2 (by omega) (by omega)
      have hm2 : 0 ≤ x1.toInt * (P.2.2.1 i).toInt := Int.mul_nonneg g1 (by omega)
      rw [y_mulL (by rw [y_w]; omega) (by rw [y_w]; omega), y_w]
    have hm2 : 0 ≤ x1.toInt * (P.2.2.1 i).toInt := Int.mul_nonneg g1 (by omega)
    have e2 : ((x1 * (P.2.2.1 i).toInt64) / W.toInt64).toInt = x1.toInt * (P.2.2.1 i).toInt / W.toInt := by
      rw [y_divL (by rw [e1]; exact hm2) (by rw [y_w]; omega), e1, y_w]
    have e3 : x1.toInt * (P.2.2.1 i).toInt / W.toInt ≤ x1.toInt := by
      apply Int.le_trans (Int.ediv_le_ediv (by omega) (Int.mul_le_mul_of_nonneg_left hge' g1))
      rw [Int.mul_ediv_cancel _ (by omega)]
      exact Int.le_refl _
    have e4 : 0 ≤ x1.toInt * (P.2.2.1 i).toInt / W.toInt := Int.ediv_nonneg hm2 (by omega)
    have o1 : (1 : Int64).toInt = 1 := rfl
    rcases h3 with q | q
    · rw [q, y_addL (by rw [e2, y_z]; omega) (by rw [e2, y_z]; omega), e2, y_z]
      omega
    · rw [q, y_addL (by rw [e2, o1]; omega) (by rw [e2, o1]; omega), e2, o1]
      omega
abbrev yN (P : sPar) (x : Int32) : Nat → Int32 := fun k => if P.2.1 k = x then 1 else 0
theorem p_count {n : Nat} {P : sPar} {s : xF64} (h : RP n P s) {fu : Nat} (hfu : 10 < fu) (x : Int32) : f_X4_countOn fu x P = some (ysumI (yN P x) n) ∧ f_X8_partiesOf fu x s = some (ysumI (yN P x) n) := by
  have hn := h.1
  refine ⟨?_, ?_⟩
  · refine ylp (fun m acc y => f_X4_countOn_4 fu P m x acc y) (fun i => ysumI (yN P x) i) n ?_ ?_ (by omega)
    · intro m acc
      simp (disch := omega) only [f_X4_countOn_4, h.2.1, y_self, if_true]
    · intro m i hi
      by_cases hc : P.2.1 i = x
      · simp (disch := omega) only [f_X4_countOn_4, h.2.1, y_nge, if_false, y_in, xk_t, y_cl, hc, if_true, nI_1, ysumI, yN]
      · simp (disch := omega) only [f_X4_countOn_4, h.2.1, y_nge, if_false, y_in, xk_t, y_cl, hc, nI_1, ysumI, yN]
  · refine ylp (fun m acc y => f_X8_partiesOf_4 fu s m x acc y) (fun i => ysumI (yN P x) i) n ?_ ?_ (by omega)
    · intro m acc
      simp (disch := omega) only [f_X8_partiesOf_4, p_parties h, xb1_s, y_self, if_true]
    · intro m i hi
      obtain ⟨a1, a2, a3⟩ := h.2.2.2.1 i hi
      by_cases hc : P.2.1 i = x
      · simp (disch := omega) only [f_X8_partiesOf_4, p_parties h, xb1_s, y_nge, if_false, q14, nI_add, y_in, xk_t, y_cl, a1, y_weq, hc, if_true, nI_1, ysumI, yN]
      · simp (disch := omega) only [f_X8_partiesOf_4, p_parties h, xb1_s, y_nge, if_false, q14, nI_add, y_in, xk_t, y_cl, a1, y_weq, hc, nI_1, ysumI, yN]
theorem p_total {n : Nat} {P : sPar} {s : xF64} (h : RP n P s) {fu : Nat} (hfu : 10 < fu) (x : Int32) (g : Nat → Int64) (hg : ∀ k, k < n → f_X4_numberOf (nI k) x P = some (g k)) : f_X4_totalOf fu x P = some (ysum g n) := by
  have hn := h.1
  refine ylp (fun m acc y => f_X4_totalOf_5 fu P m x acc y) (fun i => ysum g i) n ?_ ?_ (by omega)
  · intro m acc
    simp (disch := omega) only [f_X4_totalOf_5, h.2.1, y_self, if_true]
  · intro m i hi
    simp (disch := omega) only [f_X4_totalOf_5, h.2.1, y_nge, if_false, hg i hi, xb1_s, nI_1, ysum]
/-- one of the six rows of a party's numbers -/
theorem p_row {n : Nat} {P : sPar} {s : xF64} (h : RP n P s) {i : Nat} (hi : i < n) : ∀ w, w < 6 → f_X4_numberOf (nI i) (nI w) P = some (s (14 + 6 * w + i)) := by
  have hn := h.1
  obtain ⟨a1, a2, a3, a4, a5, a6⟩ := h.2.2.2.1 i hi
  intro w hw
  obtain rfl | rfl | rfl | rfl | rfl | rfl : w = 0 ∨ w = 1 ∨ w = 2 ∨ w = 3 ∨ w = 4 ∨ w = 5 := by omega
  · show f_X4_numberOf (nI i) 0 P = _
    unfold f_X4_numberOf
    rw [if_pos rfl, y_xk (y_in (by omega) (by omega)), y_cl (by omega), show 14 + 6 * 0 + i = 14 + i by omega, a1]
  · show f_X4_numberOf (nI i) 1 P = _
    unfold f_X4_numberOf
    rw [if_neg (by decide), if_pos rfl, y_xk (y_in (by omega) (by omega)), y_cl (by omega), show 14 + 6 * 1 + i = 20 + i by omega, a2]
  · show f_X4_numberOf (nI i) 2 P = _
    unfold f_X4_numberOf
    rw [if_neg (by decide), if_neg (by decide), if_pos rfl, y_xk (y_in (by omega) (by omega)), y_cl (by omega), show 14 + 6 * 2 + i = 26 + i by omega, a3]
  · show f_X4_numberOf (nI i) 3 P = _
    unfold f_X4_numberOf
    rw [if_neg (by decide), if_neg (by decide), if_neg (by decide), if_pos rfl, y_xk (y_in (by omega) (by omega)), y_cl (by omega), show 14 + 6 * 3 + i = 32 + i by omega, a4]
  · show f_X4_numberOf (nI i) 4 P = _
    unfold f_X4_numberOf
    rw [if_neg (by decide), if_neg (by decide), if_neg (by decide), if_neg (by decide), if_pos rfl, y_xk (y_in (by omega) (by omega)), y_cl (by omega), show 14 + 6 * 4 + i = 38 + i by omega, a5]
  · show f_X4_numberOf (nI i) 5 P = _
    unfold f_X4_numberOf
    rw [if_neg (by decide), if_neg (by decide), if_neg (by decide), if_neg (by decide), if_neg (by decide), if_pos rfl, y_xk (y_in (by omega) (by omega)), y_cl (by omega), show 14 + 6 * 5 + i = 44 + i by omega, a6]
theorem p_row6 {n : Nat} {P : sPar} {s : xF64} (h : RP n P s) {i : Nat} (hi : i < n) : ∃ v, f_X4_numberOf (nI i) 6 P = some v ∧ f_X8_held (nI i) s = some v := by
  obtain ⟨h1, h2⟩ := p_held h hi
  refine ⟨_, ?_, h2⟩
  unfold f_X4_numberOf
  rw [if_neg (by decide), if_neg (by decide), if_neg (by decide), if_neg (by decide), if_neg (by decide), if_neg (by decide), if_pos rfl, h1]
  rfl
theorem p_row8 {n : Nat} {P : sPar} {s : xF64} (h : RP n P s) {K : Int} (hK : K ≤ 20000) (v : VP K n P) {i : Nat} (hi : i < n) : ∃ v, f_X4_numberOf (nI i) 8 P = some v ∧ f_X8_shortBy (nI i) s = some v := by
  obtain ⟨h1, h2⟩ := p_short h hK v hi
  refine ⟨_, ?_, h2⟩
  unfold f_X4_numberOf
  rw [if_neg (by decide), if_neg (by decide), if_neg (by decide), if_neg (by decide), if_neg (by decide), if_neg (by decide), if_neg (by decide), h1]
  rfl
/-- a number of all parties together -/
theorem p_together {n : Nat} {P : sPar} {s : xF64} (h : RP n P s) {fu : Nat} (hfu : 10 < fu) (x : Int32) (g : Nat → Int64) (hg : ∀ k, k < n → (x = 7 ∧ f_X8_held (nI k) s = some (g k)) ∨ (x = 11 ∧ f_X8_shortBy (nI k) s = some (g k)) ∨ (∃ w, w < 3 ∧ x = nI (4 + w) ∧ s (32 + 6 * w + k) = g k)) : f_X8_together fu x s = some (ysum g n) := by
  have hn := h.1
  refine ylp (fun m acc y => f_X8_together_5 fu s m x acc y) (fun i => ysum g i) n ?_ ?_ (by omega)
  · intro m acc
    simp (disch := omega) only [f_X8_together_5, p_parties h, xb1_s, y_self, if_true]
  · intro m i hi
    rcases hg i hi with ⟨rfl, h1⟩ | ⟨rfl, h1⟩ | ⟨w, hw, rfl, h1⟩
    · simp (disch := omega) only [f_X8_together_5, p_parties h, xb1_s, y_nge, if_false, if_true, h1, nI_1, ysum]
    · simp (disch := omega) only [f_X8_together_5, p_parties h, xb1_s, y_nge, if_false, if_true, h1, nI_1, ysum, show ((11 : Int32) = 7) = False from eq_false (by decide)]
    · have e1 : (nI (4 + w) = 7) = False := eq_false (fun q => by have := (nI_eq (b := 7) (by omega) (by omega)).mp q; omega)
      have e2 : (nI (4 + w) = 11) = False := eq_false (fun q => by have := (nI_eq (b := 11) (by omega) (by omega)).mp q; omega)
      have e3 : nI (4 + w) - 4 = nI w := by
        rw [show (4 : Int32) = nI 4 from rfl, pk_sub (by omega)]
        congr 1
        omega
      simp (disch := omega) only [f_X8_together_5, p_parties h, xb1_s, y_nge, if_false, e1, e2, e3, q32, q6, pk_mul, nI_add, y_in, xk_t, y_cl, h1, nI_1, ysum]
-- one more party; one number of a party changed
theorem p_add {n : Nat} {P : sPar} {s : xF64} (h : RP n P s) (h6 : n < 6) (sd w : Int32) : ∃ P', f_X4_addOne sd w P = some (nI n, P') ∧ RP (n + 1) P' (vp_updL (vp_updL (vp_updL s (14 + n) sd.toInt64) (20 + n) w.toInt64) 2 (lN (n + 1))) ∧ (∀ K : Int, 0 ≤ K → VP K n P → (sd = 0 ∨ sd = 1) → 1 ≤ w.toInt → w.toInt ≤ 9 → VP K (n + 1) P') ∧ (∀ k, k < n → P'.2.1 k = P.2.1 k ∧ P'.2.2.2.2.1 k = P.2.2.2.2.1 k) := by
  obtain ⟨h1, h2, h3, h4, h5⟩ := h
  have hlt : P.1 < 6 := by rw [h2]; exact nI_lt h6 (by decide)
  refine ⟨(nI (n + 1), upd P.2.1 n sd, upd P.2.2.1 n w, vp_updL P.2.2.2.1 n 0, vp_updL P.2.2.2.2.1 n 0, vp_updL P.2.2.2.2.2.1 n 0, vp_updL P.2.2.2.2.2.2 n 0), ?_, ?_, ?_, ?_⟩
  · unfold f_X4_addOne
    rw [if_pos hlt]
    simp (disch := omega) only [h2, y_in, xk_t, y_cl, nI_1]
  · refine ⟨by omega, rfl, y_us _ _ _, fun k hk => ?_, fun k hk hk6 => ?_⟩
    · by_cases e : k = n
      · subst e
        simp (disch := omega) only [y_un, y_us, pk_us]
        obtain ⟨z1, z2, z3, z4⟩ := h5 k (by omega) h6
        exact ⟨trivial, trivial, z1, z2, z3, z4⟩
      · simp (disch := omega) only [y_un, pk_un]
        exact h4 k (by omega)
    · simp (disch := omega) only [y_un]
      exact h5 k (by omega) hk6
  · intro K hK v hs hw1 hw2 k hk
    by_cases e : k = n
    · subst e
      simp only [y_us, pk_us, y_z]
      exact ⟨hs, ⟨hw1, hw2⟩, by omega, by omega, by omega, by omega, by omega⟩
    · simp (disch := omega) only [y_un, pk_un]
      exact v k (by omega)
  · intro k hk
    simp (disch := omega) only [y_un, pk_un]
    exact ⟨trivial, trivial⟩
theorem p_set26 {n : Nat} {P : sPar} {s : xF64} (h : RP n P s) {i : Nat} (hi : i < n) (v : Int64) : RP n (P.1, P.2.1, P.2.2.1, vp_updL P.2.2.2.1 i v, P.2.2.2.2.1, P.2.2.2.2.2.1, P.2.2.2.2.2.2) (vp_updL s (26 + i) v) := by
  obtain ⟨h1, h2, h3, h4, h5⟩ := h
  refine ⟨h1, h2, by rw [y_un (by omega)]; exact h3, fun k hk => ?_, fun k hk hk6 => ?_⟩
  · by_cases e : k = i
    · subst e
      simp (disch := omega) only [y_un, y_us]
      obtain ⟨a1, a2, a3, a4, a5, a6⟩ := h4 k hk
      exact ⟨a1, a2, trivial, a4, a5, a6⟩
    · simp (disch := omega) only [y_un]
      exact h4 k hk
  · simp (disch := omega) only [y_un]
    exact h5 k hk hk6
theorem p_set32 {n : Nat} {P : sPar} {s : xF64} (h : RP n P s) {i : Nat} (hi : i < n) (v : Int64) : RP n (P.1, P.2.1, P.2.2.1, P.2.2.2.1, vp_updL P.2.2.2.2.1 i v, P.2.2.2.2.2.1, P.2.2.2.2.2.2) (vp_updL s (32 + i) v) := by
  obtain ⟨h1, h2, h3, h4, h5⟩ := h
  refine ⟨h1, h2, by rw [y_un (by omega)]; exact h3, fun k hk => ?_, fun k hk hk6 => ?_⟩
  · by_cases e : k = i
    · subst e
      simp (disch := omega) only [y_un, y_us]
      obtain ⟨a1, a2, a3, a4, a5, a6⟩ := h4 k hk
      exact ⟨a1, a2, a3, trivial, a5, a6⟩
    · simp (disch := omega) only [y_un]
      exact h4 k hk
  · simp (disch := omega) only [y_un]
    exact h5 k hk hk6
theorem p_set38 {n : Nat} {P : sPar} {s : xF64} (h : RP n P s) {i : Nat} (hi : i < n) (v : Int64) : RP n (P.1, P.2.1, P.2.2.1, P.2.2.2.1, P.2.2.2.2.1, vp_updL P.2.2.2.2.2.1 i v, P.2.2.2.2.2.2) (vp_updL s (38 + i) v) := by
  obtain ⟨h1, h2, h3, h4, h5⟩ := h
  refine ⟨h1, h2, by rw [y_un (by omega)]; exact h3, fun k hk => ?_, fun k hk hk6 => ?_⟩
  · by_cases e : k = i
    · subst e
      simp (disch := omega) only [y_un, y_us]
      obtain ⟨a1, a2, a3, a4, a5, a6⟩ := h4 k hk
      exact ⟨a1, a2, a3, a4, trivial, a6⟩
    · simp (disch := omega) only [y_un]
      exact h4 k hk
  · simp (disch := omega) only [y_un]
    exact h5 k hk hk6
theorem p_set44 {n : Nat} {P : sPar} {s : xF64} (h : RP n P s) {i : Nat} (hi : i < n) (v : Int64) : RP n (P.1, P.2.1, P.2.2.1, P.2.2.2.1, P.2.2.2.2.1, P.2.2.2.2.2.1, vp_updL P.2.2.2.2.2.2 i v) (vp_updL s (44 + i) v) := by
  obtain ⟨h1, h2, h3, h4, h5⟩ := h
  refine ⟨h1, h2, by rw [y_un (by omega)]; exact h3, fun k hk => ?_, fun k hk hk6 => ?_⟩
  · by_cases e : k = i
    · subst e
      simp (disch := omega) only [y_un, y_us]
      obtain ⟨a1, a2, a3, a4, a5, a6⟩ := h4 k hk
      exact ⟨a1, a2, a3, a4, a5, trivial⟩
    · simp (disch := omega) only [y_un]
      exact h4 k hk
  · simp (disch := omega) only [y_un]
    exact h5 k hk hk6
