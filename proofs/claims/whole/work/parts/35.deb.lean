-- debts
theorem d_debts {n : Nat} {D : sDeb} {s : xF64} (h : RD n D s) : f_X8_debts s = some (nI n) := by
  simp (disch := omega) only [f_X8_debts, q4, y_in, xk_t, y_cl, h.2.2.1, lN_i]
theorem d_has {n : Nat} {D : sDeb} {s : xF64} (h : RD n D s) (x : Int32) : ∃ b, f_X2_has x D = some b ∧ f_X8_isDebt x s = some b ∧ (b = 0 ∨ (b = 1 ∧ ∃ i, i < n ∧ x = nI i)) := by
  have hn := h.1
  obtain ⟨b, h1, h2, h3⟩ := y_has x (c := n) (by omega)
  refine ⟨b, ?_, ?_, h3⟩
  · rw [← h1]; unfold f_X2_has; rw [h.2.1]
  · rw [← h2]; unfold f_X8_isDebt; rw [d_debts h]; rfl
theorem d_at (i w : Nat) : f_X8_debtAt (nI i) (nI w) = some (nI (122 + 5 * i + w)) := by
  simp only [f_X8_debtAt, q122, q5, pk_mul, nI_add]
theorem d_at0 (i : Nat) : f_X8_debtAt (nI i) 0 = some (nI (122 + 5 * i)) := d_at i 0
theorem d_at1 (i : Nat) : f_X8_debtAt (nI i) 1 = some (nI (122 + 5 * i + 1)) := d_at i 1
theorem d_at2 (i : Nat) : f_X8_debtAt (nI i) 2 = some (nI (122 + 5 * i + 2)) := d_at i 2
theorem d_at3 (i : Nat) : f_X8_debtAt (nI i) 3 = some (nI (122 + 5 * i + 3)) := d_at i 3
theorem d_at4 (i : Nat) : f_X8_debtAt (nI i) 4 = some (nI (122 + 5 * i + 4)) := d_at i 4
theorem y_nm1 {i : Nat} (h : i < 2 ^ 31) : (nI i = -1) = False := eq_false (fun q => by
  have h1 := congrArg Int32.toInt q
  rw [nI_toInt h] at h1
  have h2 : (-1 : Int32).toInt = -1 := rfl
  omega)
theorem d_find_loop {n : Nat} {D : sDeb} {s : xF64} (h : RD n D s) {fu : Nat} (x y : Int32) : ∀ l i m, i + l = n → l < m → (∀ k, k < i → ¬ (D.2.1 k = x ∧ D.2.2.1 k = y)) → ∃ r, f_X2_indexOf_2 fu D m x y (nI i) = some r ∧ f_X8_find_2 fu s m x y (nI i) = some r ∧ ((r = -1 ∧ ∀ k, k < n → ¬ (D.2.1 k = x ∧ D.2.2.1 k = y)) ∨ ∃ i, i < n ∧ r = nI i ∧ D.2.1 i = x ∧ D.2.2.1 i = y) := by
  have hn := h.1
  intro l
  induction l with
  | zero =>
    intro i m hi hm hb
    obtain ⟨m, rfl⟩ : ∃ m', m = m' + 1 := ⟨m - 1, by omega⟩
    have hi' : i = n := by omega
    subst hi'
    refine ⟨-1, ?_, ?_, .inl ⟨rfl, hb⟩⟩
    · simp (disch := omega) only [f_X2_indexOf_2, h.2.1, y_self, if_true]
    · simp (disch := omega) only [f_X8_find_2, d_debts h, xb1_s, y_self, if_true]
  | succ l ih =>
    intro i m hi hm hb
    obtain ⟨m, rfl⟩ : ∃ m', m = m' + 1 := ⟨m - 1, by omega⟩
    obtain ⟨a1, a2, a3⟩ := h.2.2.2 i (by omega)
    by_cases c : D.2.1 i = x ∧ D.2.2.1 i = y
    · obtain ⟨c1, c2⟩ := c
      refine ⟨nI i, ?_, ?_, .inr ⟨i, by omega, rfl, c1, c2⟩⟩
      · simp (disch := omega) only [f_X2_indexOf_2, h.2.1, y_nge, if_false, y_in, xk_t, y_cl, c1, c2, if_true]
      · simp (disch := omega) only [f_X8_find_2, d_debts h, xb1_s, y_nge, if_false, d_at0, d_at1, y_in, xk_t, y_cl, a1, a2, c1, c2, if_true]
    · obtain ⟨r, g1, g2, g3⟩ := ih (i + 1) m (by omega) (by omega) (fun k hk => by
        by_cases e : k = i
        · subst e; exact c
        · exact hb k (by omega))
      refine ⟨r, ?_, ?_, g3⟩
      · rw [← g1]
        by_cases c1 : D.2.1 i = x
        · have c2 : ¬ D.2.2.1 i = y := fun q => c ⟨c1, q⟩
          simp (disch := omega) only [f_X2_indexOf_2, h.2.1, y_nge, if_false, y_in, xk_t, y_cl, c1, c2, if_true, nI_1]
        · simp (disch := omega) only [f_X2_indexOf_2, h.2.1, y_nge, if_false, y_in, xk_t, y_cl, c1, nI_1]
      · rw [← g2]
        by_cases c1 : D.2.1 i = x
        · have c2 : ¬ D.2.2.1 i = y := fun q => c ⟨c1, q⟩
          simp (disch := omega) only [f_X8_find_2, d_debts h, xb1_s, y_nge, if_false, d_at0, d_at1, y_in, xk_t, y_cl, a1, a2, y_weq, c1, c2, if_true, nI_1]
        · simp (disch := omega) only [f_X8_find_2, d_debts h, xb1_s, y_nge, if_false, d_at0, d_at1, y_in, xk_t, y_cl, a1, a2, y_weq, c1, nI_1]
theorem d_find {n : Nat} {D : sDeb} {s : xF64} (h : RD n D s) {fu : Nat} (hfu : 40 < fu) (x y : Int32) : ∃ r, f_X2_indexOf fu x y D = some r ∧ f_X8_find fu x y s = some r ∧ ((r = -1 ∧ ∀ k, k < n → ¬ (D.2.1 k = x ∧ D.2.2.1 k = y)) ∨ ∃ i, i < n ∧ r = nI i ∧ D.2.1 i = x ∧ D.2.2.1 i = y) :=
  d_find_loop h x y n 0 fu (by omega) (by have := h.1; omega) (fun k hk => absurd hk (Nat.not_lt_zero k))
theorem d_amt {n : Nat} {D : sDeb} {s : xF64} (h : RD n D s) {i : Nat} (hi : i < n) : f_X2_amountOf (nI i) D = some (D.2.2.2.1 i + D.2.2.2.2.1 i) ∧ f_X8_owing (nI i) s = some (D.2.2.2.1 i + D.2.2.2.2.1 i) := by
  have hn := h.1
  obtain ⟨a1, a2, a3, a4, a5⟩ := h.2.2.2 i hi
  refine ⟨?_, ?_⟩
  · simp (disch := omega) only [f_X2_amountOf, y_in, xk_t, y_cl]
  · simp (disch := omega) only [f_X8_owing, d_at2, d_at3, xb1_s, y_in, xk_t, y_cl, a3, a4]
theorem d_owed {n : Nat} {D : sDeb} {s : xF64} (h : RD n D s) {fu : Nat} (hfu : 40 < fu) (x y : Int32) : ∃ v, f_X2_owedBy fu x y D = some v ∧ f_X8_owedBy fu x y s = some v ∧ ((v = 0 ∧ ∀ k, k < n → ¬ (D.2.1 k = x ∧ D.2.2.1 k = y)) ∨ ∃ i, i < n ∧ D.2.1 i = x ∧ D.2.2.1 i = y ∧ v = D.2.2.2.1 i + D.2.2.2.2.1 i) := by
  have hn := h.1
  obtain ⟨r, g1, g2, g3⟩ := d_find h hfu x y
  rcases g3 with ⟨rfl, g3⟩ | ⟨i, hi, rfl, c1, c2⟩
  · refine ⟨0, ?_, ?_, .inl ⟨rfl, g3⟩⟩
    · simp only [f_X2_owedBy, g1, xb1_s, if_true]
    · simp only [f_X8_owedBy, g2, xb1_s, if_true]
  · refine ⟨_, ?_, ?_, .inr ⟨i, hi, c1, c2, rfl⟩⟩
    · simp (disch := omega) only [f_X2_owedBy, g1, xb1_s, y_nm1, if_false, (d_amt h hi).1]
    · simp (disch := omega) only [f_X8_owedBy, g2, xb1_s, y_nm1, if_false, (d_amt h hi).2]
theorem VD1.uniq {n pn : Nat} {D : sDeb} (v : VD1 n D pn) {i j : Nat} (hi : i < n) (hj : j < n) (h1 : D.2.1 i = D.2.1 j) (h2 : D.2.2.1 i = D.2.2.1 j) : i = j := by
  by_cases e : i = j
  · exact e
  · by_cases l : i < j
    · exact absurd ⟨h1, h2⟩ (v.2 i j l hj)
    · exact absurd ⟨h1.symm, h2.symm⟩ (v.2 j i (by omega) hi)
theorem d_ow_i {n pn : Nat} {D : sDeb} {s : xF64} (h : RD n D s) (v : VD1 n D pn) {fu : Nat} (hfu : 40 < fu) {i : Nat} (hi : i < n) : f_X2_owedBy fu (D.2.1 i) (D.2.2.1 i) D = some (D.2.2.2.1 i + D.2.2.2.2.1 i) := by
  obtain ⟨w, g1, g2, g3⟩ := d_owed h hfu (D.2.1 i) (D.2.2.1 i)
  rcases g3 with ⟨rfl, g3⟩ | ⟨j, hj, c1, c2, rfl⟩
  · exact absurd ⟨rfl, rfl⟩ (g3 i hi)
  · have := v.uniq hj hi c1 c2
    subst this
    exact g1
theorem d_ow_0 {n : Nat} {D : sDeb} {s : xF64} (h : RD n D s) {fu : Nat} (hfu : 40 < fu) {x y : Int32} (hno : ∀ k, k < n → ¬ (D.2.1 k = x ∧ D.2.2.1 k = y)) : f_X2_owedBy fu x y D = some 0 := by
  obtain ⟨w, g1, g2, g3⟩ := d_owed h hfu x y
  rcases g3 with ⟨rfl, g3⟩ | ⟨j, hj, c1, c2, rfl⟩
  · exact g1
  · exact absurd ⟨c1, c2⟩ (hno j hj)
-- sums of debts
abbrev yB (D : sDeb) (x : Int32) : Nat → Int64 := fun k => if D.2.1 k = x then D.2.2.2.1 k + D.2.2.2.2.1 k else 0
abbrev yT (D : sDeb) (x : Int32) : Nat → Int64 := fun k => if D.2.2.1 k = x then D.2.2.2.1 k + D.2.2.2.2.1 k else 0
theorem d_by {n : Nat} {D : sDeb} {s : xF64} (h : RD n D s) {fu : Nat} (hfu : 40 < fu) (x : Int32) : ∃ S, f_X2_allOwedBy fu x D = some S ∧ f_X8_allOwed fu x 0 s = some S := by
  have hn := h.1
  refine ⟨ysum (yB D x) n, ?_, ?_⟩
  · refine ylp (fun m acc y => f_X2_allOwedBy_5 fu D m x acc y) (fun i => ysum (yB D x) i) n ?_ ?_ (by omega)
    · intro m acc
      simp (disch := omega) only [f_X2_allOwedBy_5, h.2.1, y_self, if_true]
    · intro m i hi
      by_cases hc : D.2.1 i = x
      · simp (disch := omega) only [f_X2_allOwedBy_5, h.2.1, y_nge, if_false, y_in, xk_t, y_cl, hc, if_true, (d_amt h hi).1, xb1_s, nI_1, ysum, yB]
      · simp (disch := omega) only [f_X2_allOwedBy_5, h.2.1, y_nge, if_false, y_in, xk_t, y_cl, hc, nI_1, ysum, yB]
  · refine ylp (fun m acc y => f_X8_allOwed_5 fu s m x 0 acc y) (fun i => ysum (yB D x) i) n ?_ ?_ (by omega)
    · intro m acc
      simp (disch := omega) only [f_X8_allOwed_5, d_debts h, xb1_s, y_self, if_true]
    · intro m i hi
      obtain ⟨a1, a2, a3⟩ := h.2.2.2 i hi
      by_cases hc : D.2.1 i = x
      · simp (disch := omega) only [f_X8_allOwed_5, d_debts h, xb1_s, y_nge, if_false, if_true, d_at0, y_in, xk_t, y_cl, a1, y_weq, hc, (d_amt h hi).2, nI_1, ysum, yB]
      · simp (disch := omega) only [f_X8_allOwed_5, d_debts h, xb1_s, y_nge, if_false, if_true, d_at0, y_in, xk_t, y_cl, a1, y_weq, hc, nI_1, ysum, yB]
theorem d_to {n : Nat} {D : sDeb} {s : xF64} (h : RD n D s) {fu : Nat} (hfu : 40 < fu) (x : Int32) : ∃ S, f_X2_allOwedTo fu x D = some S ∧ f_X8_allOwed fu x 1 s = some S := by
  have hn := h.1
  have o : ((1 : Int32) = 0) = False := eq_false (by decide)
  refine ⟨ysum (yT D x) n, ?_, ?_⟩
  · refine ylp (fun m acc y => f_X2_allOwedTo_5 fu D m x acc y) (fun i => ysum (yT D x) i) n ?_ ?_ (by omega)
    · intro m acc
      simp (disch := omega) only [f_X2_allOwedTo_5, h.2.1, y_self, if_true]
    · intro m i hi
      by_cases hc : D.2.2.1 i = x
      · simp (disch := omega) only [f_X2_allOwedTo_5, h.2.1, y_nge, if_false, y_in, xk_t, y_cl, hc, if_true, (d_amt h hi).1, xb1_s, nI_1, ysum, yT]
      · simp (disch := omega) only [f_X2_allOwedTo_5, h.2.1, y_nge, if_false, y_in, xk_t, y_cl, hc, nI_1, ysum, yT]
  · refine ylp (fun m acc y => f_X8_allOwed_5 fu s m x 1 acc y) (fun i => ysum (yT D x) i) n ?_ ?_ (by omega)
    · intro m acc
      simp (disch := omega) only [f_X8_allOwed_5, d_debts h, xb1_s, y_self, if_true]
    · intro m i hi
      obtain ⟨a1, a2, a3⟩ := h.2.2.2 i hi
      by_cases hc : D.2.2.1 i = x
      · simp (disch := omega) only [f_X8_allOwed_5, d_debts h, xb1_s, y_nge, if_false, if_true, o, d_at1, y_in, xk_t, y_cl, a2, y_weq, hc, (d_amt h hi).2, nI_1, ysum, yT]
      · simp (disch := omega) only [f_X8_allOwed_5, d_debts h, xb1_s, y_nge, if_false, o, d_at1, y_in, xk_t, y_cl, a2, y_weq, hc, nI_1, ysum, yT]
theorem d_all {n : Nat} {D : sDeb} {s : xF64} (h : RD n D s) {fu : Nat} (hfu : 40 < fu) : ∃ S, f_X2_allOwed fu D = some S ∧ f_X8_allDebts fu s = some S := by
  have hn := h.1
  refine ⟨ysum (fun k => D.2.2.2.1 k + D.2.2.2.2.1 k) n, ?_, ?_⟩
  · refine ylp (fun m acc y => f_X2_allOwed_4 fu D m acc y) (fun i => ysum (fun k => D.2.2.2.1 k + D.2.2.2.2.1 k) i) n ?_ ?_ (by omega)
    · intro m acc
      simp (disch := omega) only [f_X2_allOwed_4, h.2.1, y_self, if_true]
    · intro m i hi
      simp (disch := omega) only [f_X2_allOwed_4, h.2.1, y_nge, if_false, (d_amt h hi).1, xb1_s, nI_1, ysum]
  · refine ylp (fun m acc y => f_X8_allDebts_4 fu s m acc y) (fun i => ysum (fun k => D.2.2.2.1 k + D.2.2.2.2.1 k) i) n ?_ ?_ (by omega)
    · intro m acc
      simp (disch := omega) only [f_X8_allDebts_4, d_debts h, xb1_s, y_self, if_true]
    · intro m i hi
      simp (disch := omega) only [f_X8_allDebts_4, d_debts h, xb1_s, y_nge, if_false, (d_amt h hi).2, nI_1, ysum]
theorem d_row {n : Nat} {D : sDeb} {s : xF64} (h : RD n D s) {i : Nat} (hi : i < n) : ∀ w, w < 5 → f_X2_numberOf (nI i) (nI w) D = some (s (122 + 5 * i + w)) := by
  have hn := h.1
  obtain ⟨a1, a2, a3, a4, a5⟩ := h.2.2.2 i hi
  intro w hw
  have x0 : xin (nI i) 30 = true := y_in (by omega) (by omega)
  have x1 : (nI i).toNatClampNeg = i := y_cl (by omega)
  obtain rfl | rfl | rfl | rfl | rfl : w = 0 ∨ w = 1 ∨ w = 2 ∨ w = 3 ∨ w = 4 := by omega
  · show f_X2_numberOf (nI i) 0 D = some (s (122 + 5 * i))
    unfold f_X2_numberOf
    rw [if_pos rfl, y_xk x0, x1, a1]
  · show f_X2_numberOf (nI i) 1 D = _
    unfold f_X2_numberOf
    rw [if_neg (by decide), if_pos rfl, y_xk x0, x1, a2]
  · show f_X2_numberOf (nI i) 2 D = _
    unfold f_X2_numberOf
    rw [if_neg (by decide), if_neg (by decide), if_pos rfl, y_xk x0, x1, a3]
  · show f_X2_numberOf (nI i) 3 D = _
    unfold f_X2_numberOf
    rw [if_neg (by decide), if_neg (by decide), if_neg (by decide), if_pos rfl, y_xk x0, x1, a4]
  · show f_X2_numberOf (nI i) 4 D = _
    unfold f_X2_numberOf
    rw [if_neg (by decide), if_neg (by decide), if_neg (by decide), if_neg (by decide), y_xk x0, x1, a5]
-- as many as there are places
theorem y_pig : ∀ (N n : Nat) (f : Nat → Nat), (∀ i, i < n → f i < N) → (∀ i j, i < j → j < n → f i ≠ f j) → n ≤ N := by
  intro N
  induction N with
  | zero =>
    intro n f h1 _
    by_cases c : n = 0
    · omega
    · exact absurd (h1 0 (by omega)) (Nat.not_lt_zero _)
  | succ N ih =>
    intro n f h1 h2
    by_cases c : ∃ i, i < n ∧ f i = N
    · obtain ⟨i0, hi0, e0⟩ := c
      have := ih (n - 1) (fun k => if k < i0 then f k else f (k + 1)) (fun i hi => by
        show (if i < i0 then f i else f (i + 1)) < N
        by_cases l : i < i0
        · rw [if_pos l]
          have := h1 i (by omega)
          have := h2 i i0 l hi0
          omega
        · rw [if_neg l]
          have := h1 (i + 1) (by omega)
          have := h2 i0 (i + 1) (by omega) (by omega)
          omega) (fun i j hij hj => by
        show (if i < i0 then f i else f (i + 1)) ≠ (if j < i0 then f j else f (j + 1))
        by_cases l : i < i0
        · by_cases l2 : j < i0
          · rw [if_pos l, if_pos l2]; exact h2 i j hij (by omega)
          · rw [if_pos l, if_neg l2]; exact h2 i (j + 1) (by omega) (by omega)
        · rw [if_neg l, if_neg (by omega)]; exact h2 (i + 1) (j + 1) (by omega) (by omega))
      omega
    · have := ih n f (fun i hi => by
        have := h1 i hi
        have : f i ≠ N := fun q => c ⟨i, hi, q⟩
        omega) h2
      omega
/-- the place of a pair among the thirty -/
def yPl (a b : Nat) : Nat := 5 * a + (if b < a then b else b - 1)
theorem yPl_lt {a b : Nat} (ha : a < 6) (hb : b < 6) (h : a ≠ b) : yPl a b < 30 := by
  unfold yPl
  by_cases c : b < a
  · rw [if_pos c]; omega
  · rw [if_neg c]; omega
theorem yPl_inj {a b c d : Nat} (ha : a < 6) (hb : b < 6) (h : a ≠ b) (hc : c < 6) (hd : d < 6) (h2 : c ≠ d) (e : yPl a b = yPl c d) : a = c ∧ b = d := by
  unfold yPl at e
  by_cases l : b < a
  · by_cases l2 : d < c
    · rw [if_pos l, if_pos l2] at e; omega
    · rw [if_pos l, if_neg l2] at e; omega
  · by_cases l2 : d < c
    · rw [if_neg l, if_pos l2] at e; omega
    · rw [if_neg l, if_neg l2] at e; omega
theorem d_room {n pn : Nat} {D : sDeb} (hp : pn ≤ 6) (v : VD1 n D pn) {a b : Nat} (ha : a < pn) (hb : b < pn) (hab : a ≠ b) (hno : ∀ k, k < n → ¬ (D.2.1 k = nI a ∧ D.2.2.1 k = nI b)) : n < 30 := by
  have hcode : ∀ k, k < n → ∃ c d, c < pn ∧ d < pn ∧ c ≠ d ∧ D.2.1 k = nI c ∧ D.2.2.1 k = nI d := v.1
  let f : Nat → Nat := fun k => if k < n then yPl (D.2.1 k).toNatClampNeg (D.2.2.1 k).toNatClampNeg else yPl a b
  have hf : ∀ k, k < n → ∃ c d, c < pn ∧ d < pn ∧ c ≠ d ∧ D.2.1 k = nI c ∧ D.2.2.1 k = nI d ∧ f k = yPl c d := fun k hk => by
    obtain ⟨c, d, hc, hd, hcd, e1, e2⟩ := hcode k hk
    refine ⟨c, d, hc, hd, hcd, e1, e2, ?_⟩
    show (if k < n then yPl (D.2.1 k).toNatClampNeg (D.2.2.1 k).toNatClampNeg else yPl a b) = _
    rw [if_pos hk, e1, e2, y_cl (by omega), y_cl (by omega)]
  have hfn : f n = yPl a b := by
    show (if n < n then yPl (D.2.1 n).toNatClampNeg (D.2.2.1 n).toNatClampNeg else yPl a b) = _
    rw [if_neg (by omega)]
  have := y_pig 30 (n + 1) f (fun i hi => by
    by_cases e : i = n
    · subst e; rw [hfn]; exact yPl_lt (by omega) (by omega) hab
    · obtain ⟨c, d, hc, hd, hcd, e1, e2, e3⟩ := hf i (by omega)
      rw [e3]; exact yPl_lt (by omega) (by omega) hcd) (fun i j hij hj => by
    obtain ⟨c, d, hc, hd, hcd, e1, e2, e3⟩ := hf i (by omega)
    intro q
    by_cases e : j = n
    · subst e
      rw [hfn, e3] at q
      obtain ⟨r1, r2⟩ := yPl_inj (by omega) (by omega) hcd (by omega) (by omega) hab q
      subst r1; subst r2
      exact hno i (by omega) ⟨e1, e2⟩
    · obtain ⟨c', d', hc', hd', hcd', e1', e2', e3'⟩ := hf j (by omega)
      rw [e3, e3'] at q
      obtain ⟨r1, r2⟩ := yPl_inj (by omega) (by omega) hcd (by omega) (by omega) hcd' q
      subst r1; subst r2
      exact v.2 i j hij (by omega) ⟨e1.trans e1'.symm, e2.trans e2'.symm⟩)
  omega
