-- a debt grows, or comes
theorem d_owes {n pn : Nat} {D : sDeb} {s : xF64} (h : RD n D s) (hp : pn ≤ 6) (v1 : VD1 n D pn) {K L : Int} (v2 : VD2 K n D) (hK0 : 0 ≤ K) (hKL : K ≤ L) {fu : Nat} (hfu : 40 < fu) {a b : Nat} (ha : a < pn) (hb : b < pn) (hab : a ≠ b) (x3 : Int64) (hx3 : 1 ≤ x3.toInt) {β0 β1 : Int32 → Int} (h3 : ∀ k, k < n → (D.2.2.2.1 k).toInt ≤ β0 (D.2.1 k)) (hβ : ∀ x, β0 x ≤ β1 x) (hβa : β0 (nI a) + x3.toInt ≤ β1 (nI a)) (hβ0 : 0 ≤ β0 (nI a)) (hβ1 : β1 (nI a) < 9000000000000000000) : ∃ n' D' s', f_X2_increase fu (nI a) (nI b) x3 D = some D' ∧ f_X8_owes fu (nI a) (nI b) x3 s = some s' ∧ RD n' D' s' ∧ (∀ k, k ≠ 4 → ¬ (122 ≤ k ∧ k < 272) → s' k = s k) ∧ VD1 n' D' pn ∧ VD2 L n' D' ∧ (∀ k, k < n' → (D'.2.2.2.1 k).toInt ≤ β1 (D'.2.1 k)) := by
  have hn := h.1
  obtain ⟨r, g1, g2, g3⟩ := d_find h hfu (nI a) (nI b)
  rcases g3 with ⟨rfl, g3⟩ | ⟨i, hi, rfl, c1, c2⟩
  · have hn30 := d_room hp v1 ha hb hab g3
    have hlt : (30 ≤ nI n) = False := eq_false (nI_ge (a := n) (b := 30) hn30 (by omega))
    have hz : (0 : Int64) + x3 = x3 := Int64.zero_add x3
    refine ⟨n + 1, (nI (n + 1), upd D.2.1 n (nI a), upd D.2.2.1 n (nI b), vp_updL D.2.2.2.1 n x3, vp_updL D.2.2.2.2.1 n 0, vp_updL D.2.2.2.2.2 n 0), vp_updL (vp_updL (vp_updL (vp_updL (vp_updL (vp_updL (vp_updL s (122 + 5 * n) (nI a).toInt64) (122 + 5 * n + 1) (nI b).toInt64) (122 + 5 * n + 2) 0) (122 + 5 * n + 3) 0) (122 + 5 * n + 4) 0) 4 (lN (n + 1))) (122 + 5 * n + 2) x3, ?_, ?_, ⟨by omega, rfl, ?_, fun k hk => ?_⟩, fun k hk hk2 => ?_, ⟨fun k hk => ?_, fun j k hjk hk => ?_⟩, fun k hk => ?_, fun k hk => ?_⟩
    · simp (disch := omega) only [f_X2_increase, g1, xb1_s, if_true, h.2.1, hlt, if_false, y_in, xk_t, y_cl, nI_1]
    · obtain ⟨s5, h5⟩ : ∃ s5 : xF64, s5 = vp_updL (vp_updL (vp_updL (vp_updL (vp_updL s (122 + 5 * n) (nI a).toInt64) (122 + 5 * n + 1) (nI b).toInt64) (122 + 5 * n + 2) 0) (122 + 5 * n + 3) 0) (122 + 5 * n + 4) 0 := ⟨_, rfl⟩
      have r4 : s5 4 = lN n := by
        rw [h5, y_un (by omega), y_un (by omega), y_un (by omega), y_un (by omega), y_un (by omega)]
        exact h.2.2.1
      have r2 : s5 (122 + 5 * n + 2) = 0 := by rw [h5, y_un (by omega), y_un (by omega), y_us]
      have c4 : (4 : Int32).toNatClampNeg = 4 := rfl
      have i4 : xin 4 304 = true := by decide
      rw [f_X8_owes, g2, xb1_s, if_pos rfl, d_debts h, xb1_s, d_at0, xb1_s, y_xk (y_in (by omega) (by omega)), d_at1, xb1_s, y_xk (y_in (by omega) (by omega)), d_at2, xb1_s, y_xk (y_in (by omega) (by omega)), d_at3, xb1_s, y_xk (y_in (by omega) (by omega)), d_at4, xb1_s, y_xk (y_in (by omega) (by omega)), y_xk i4, y_xk i4, xb1_s, y_xk (y_in (by omega) (by omega)), y_xk (y_in (by omega) (by omega)), c4, y_cl (by omega), y_cl (by omega), y_cl (by omega), y_cl (by omega), y_cl (by omega), ← h5, r4, lN_1, y_un (by omega), r2, hz]
    · rw [y_un (by omega), y_us]
    · by_cases e : k = n
      · subst e
        simp (disch := omega) only [y_un, y_us, pk_us]
        exact ⟨trivial, trivial, trivial, trivial, trivial⟩
      · simp (disch := omega) only [y_un, pk_un]
        exact h.2.2.2 k (by omega)
    · rw [y_un (by omega), y_un (by omega), y_un (by omega), y_un (by omega), y_un (by omega), y_un (by omega), y_un (by omega)]
    · by_cases e : k = n
      · subst e
        exact ⟨a, b, ha, hb, hab, pk_us, pk_us⟩
      · simp (disch := omega) only [pk_un]
        exact v1.1 k (by omega)
    · by_cases e : k = n
      · subst e
        simp (disch := omega) only [pk_un, pk_us]
        exact g3 j hjk
      · simp (disch := omega) only [pk_un]
        exact v1.2 j k hjk (by omega)
    · by_cases e : k = n
      · subst e
        simp only [y_us, y_z]
        omega
      · simp (disch := omega) only [y_un]
        have := v2 k (by omega)
        omega
    · by_cases e : k = n
      · subst e
        simp only [y_us, pk_us]
        have := hβ (nI a)
        omega
      · simp (disch := omega) only [y_un, pk_un]
        exact Int.le_trans (h3 k (by omega)) (hβ _)
  · obtain ⟨a1, a2, a3, a4, a5⟩ := h.2.2.2 i hi
    have b3 := h3 i hi
    rw [c1] at b3
    have b2 := v2 i hi
    have es : (D.2.2.2.1 i + x3).toInt = (D.2.2.2.1 i).toInt + x3.toInt := y_addL (by omega) (by omega)
    refine ⟨n, (D.1, D.2.1, D.2.2.1, vp_updL D.2.2.2.1 i (D.2.2.2.1 i + x3), D.2.2.2.2.1, D.2.2.2.2.2), vp_updL s (122 + 5 * i + 2) (D.2.2.2.1 i + x3), ?_, ?_, ⟨hn, h.2.1, ?_, fun k hk => ?_⟩, fun k hk hk2 => ?_, ⟨v1.1, v1.2⟩, fun k hk => ?_, fun k hk => ?_⟩
    · simp (disch := omega) only [f_X2_increase, g1, xb1_s, y_nm1, if_false, y_in, xk_t, y_cl]
    · simp (disch := omega) only [f_X8_owes, g2, xb1_s, y_nm1, if_false, d_at2, y_in, xk_t, y_cl, a3]
    · rw [y_un (by omega)]; exact h.2.2.1
    · by_cases e : k = i
      · subst e
        simp (disch := omega) only [y_un, y_us]
        exact ⟨a1, a2, trivial, a4, a5⟩
      · simp (disch := omega) only [y_un]
        exact h.2.2.2 k hk
    · rw [y_un (by omega)]
    · have := v2 k hk
      by_cases e : k = i
      · subst e
        simp only [y_us]
        omega
      · simp (disch := omega) only [y_un]
        omega
    · by_cases e : k = i
      · subst e
        simp only [y_us]
        rw [c1]
        omega
      · simp (disch := omega) only [y_un]
        exact Int.le_trans (h3 k hk) (hβ _)
-- a debt is paid
def ysh {α : Type} (i n : Nat) (f : Nat → α) : Nat → α := fun k => if i ≤ k ∧ k < n - 1 then f (k + 1) else f k
theorem ysh_e {α : Type} (n : Nat) (f : Nat → α) : ysh (n - 1) n f = f := by
  funext k
  exact if_neg (by omega)
theorem ysh_I {i n : Nat} (h : i < n - 1) (f : Nat → Int32) : ysh (i + 1) n (upd f i (f (i + 1))) = ysh i n f := by
  funext k
  show (if i + 1 ≤ k ∧ k < n - 1 then upd f i (f (i + 1)) (k + 1) else upd f i (f (i + 1)) k) = if i ≤ k ∧ k < n - 1 then f (k + 1) else f k
  by_cases c : i + 1 ≤ k ∧ k < n - 1
  · rw [if_pos c, if_pos (by omega), pk_un (by omega)]
  · rw [if_neg c]
    by_cases e : k = i
    · subst e
      rw [if_pos (by omega), pk_us]
    · rw [if_neg (by omega), pk_un e]
theorem ysh_L {i n : Nat} (h : i < n - 1) (f : Nat → Int64) : ysh (i + 1) n (vp_updL f i (f (i + 1))) = ysh i n f := by
  funext k
  show (if i + 1 ≤ k ∧ k < n - 1 then vp_updL f i (f (i + 1)) (k + 1) else vp_updL f i (f (i + 1)) k) = if i ≤ k ∧ k < n - 1 then f (k + 1) else f k
  by_cases c : i + 1 ≤ k ∧ k < n - 1
  · rw [if_pos c, if_pos (by omega), y_un (by omega)]
  · rw [if_neg c]
    by_cases e : k = i
    · subst e
      rw [if_pos (by omega), y_us]
    · rw [if_neg (by omega), y_un e]
theorem d_rm {fu n : Nat} (hn : n ≤ 30) : ∀ j i m (D : sDeb), D.1 = nI n → i + j + 1 = n → j < m → f_X2_removeAt_2 fu m (nI i) D = some (nI (n - 1), ysh i n D.2.1, ysh i n D.2.2.1, ysh i n D.2.2.2.1, ysh i n D.2.2.2.2.1, ysh i n D.2.2.2.2.2) := by
  intro j
  induction j with
  | zero =>
    intro i m D hD hi hm
    obtain ⟨m, rfl⟩ : ∃ m', m = m' + 1 := ⟨m - 1, by omega⟩
    have hi' : i = n - 1 := by omega
    subst hi'
    simp only [ysh_e]
    simp (disch := omega) only [f_X2_removeAt_2, hD, q1, pk_sub, y_self, if_true]
  | succ j ih =>
    intro i m D hD hi hm
    obtain ⟨m, rfl⟩ : ∃ m', m = m' + 1 := ⟨m - 1, by omega⟩
    have := ih (i + 1) m (nI n, upd D.2.1 i (D.2.1 (i + 1)), upd D.2.2.1 i (D.2.2.1 (i + 1)), vp_updL D.2.2.2.1 i (D.2.2.2.1 (i + 1)), vp_updL D.2.2.2.2.1 i (D.2.2.2.2.1 (i + 1)), vp_updL D.2.2.2.2.2 i (D.2.2.2.2.2 (i + 1))) rfl (by omega) (by omega)
    simp (disch := omega) only [ysh_I, ysh_L] at this
    rw [← this]
    simp (disch := omega) only [f_X2_removeAt_2, hD, q1, pk_sub, y_nge, if_false, y_in, xk_t, y_cl, nI_add]
theorem d_shl {fu n i e : Nat} (hn : n ≤ 30) (hi : i < n) (he : e = 122 + 5 * (n - 1)) (hfu : 300 < fu) {s1 : xF64} (h4 : s1 4 = lN n) : ∃ s2, f_X8_pays_82 fu fu (nI (122 + 5 * i)) s1 = some (vp_updL s2 4 (lN (n - 1))) ∧ ∀ k, s2 k = if 122 + 5 * i ≤ k ∧ k < e then s1 (k + 5) else s1 k := by
  have dd : ∀ t : xF64, t 4 = lN n → f_X8_debts t = some (nI n) := fun t ht => by
    simp (disch := omega) only [f_X8_debts, q4, y_in, xk_t, y_cl, ht, lN_i]
  have el : lN n - 1 = lN (n - 1) := lN_sub (a := n) (b := 1) (by omega)
  have em : nI n - 1 = nI (n - 1) := pk_sub (a := n) (b := 1) (by omega)
  have da : f_X8_debtAt (nI (n - 1)) 0 = some (nI e) := by rw [he]; exact d_at0 (n - 1)
  have c4 : (4 : Int32).toNatClampNeg = 4 := rfl
  have i4 : xin 4 304 = true := by decide
  have hend : ∀ m t, t 4 = lN n → f_X8_pays_82 fu (m + 1) (nI e) t = some (vp_updL t 4 (lN (n - 1))) := fun m t ht => by
    rw [f_X8_pays_82, dd t ht, xb1_s, em, da, xb1_s, if_pos (nI_le (Nat.le_refl e) (by omega)), y_xk i4, y_xk i4, c4, ht, el]
  have hstep : ∀ m k t, t 4 = lN n → k < e → f_X8_pays_82 fu (m + 1) (nI k) t = f_X8_pays_82 fu m (nI (k + 1)) (vp_updL t k (t (k + 5))) := fun m k t ht hk => by
    have e5 : nI k + 5 = nI (k + 5) := nI_add k 5
    rw [f_X8_pays_82, dd t ht, xb1_s, em, da, xb1_s, if_neg (nI_ge hk (by omega)), e5, y_xk (y_in (by omega) (by omega)), y_xk (y_in (by omega) (by omega)), y_cl (by omega), y_cl (by omega), nI_1]
  have key : ∀ j i m s, 122 ≤ i → i + j = e → j < m → s 4 = lN n → ∃ s', f_X8_pays_82 fu m (nI i) s = some (vp_updL s' 4 (lN (n - 1))) ∧ ∀ k, s' k = if i ≤ k ∧ k < e then s (k + 5) else s k := by
    intro j
    induction j with
    | zero =>
      intro i m s h1 hj hm hs
      obtain ⟨m, rfl⟩ : ∃ m', m = m' + 1 := ⟨m - 1, by omega⟩
      have hi' : i = e := by omega
      subst hi'
      exact ⟨s, hend m s hs, fun k => by rw [if_neg (by omega)]⟩
    | succ j ih =>
      intro i m s h1 hj hm hs
      obtain ⟨m, rfl⟩ : ∃ m', m = m' + 1 := ⟨m - 1, by omega⟩
      obtain ⟨s', g1, g2⟩ := ih (i + 1) m (vp_updL s i (s (i + 5))) (by omega) (by omega) (by omega) (by rw [y_un (by omega)]; exact hs)
      refine ⟨s', by rw [hstep m i s hs (by omega)]; exact g1, fun k => ?_⟩
      rw [g2 k]
      by_cases c1 : i + 1 ≤ k ∧ k < e
      · rw [if_pos c1, if_pos (by omega), y_un (by omega)]
      · rw [if_neg c1]
        by_cases c2 : k = i
        · subst c2
          rw [y_us, if_pos (by omega)]
        · rw [y_un c2, if_neg (by omega)]
  exact key (e - (122 + 5 * i)) (122 + 5 * i) fu s1 (by omega) (by omega) (by omega) h4
theorem d_pays {n pn : Nat} {D : sDeb} {s : xF64} (h : RD n D s) (v1 : VD1 n D pn) {K : Int} (v2 : VD2 K n D) {fu : Nat} (hfu : 300 < fu) {i : Nat} (hi : i < n) (x3 : Int64) (h0 : 0 ≤ x3.toInt) (hle : x3.toInt ≤ (D.2.2.2.1 i).toInt + (D.2.2.2.2.1 i).toInt) (hpr : (D.2.2.2.1 i).toInt ≤ 4000000000000000000) (hin : (D.2.2.2.2.1 i).toInt ≤ 4000000000000000000) :
    ∃ n' D' s', f_X2_reduce fu (D.2.1 i) (D.2.2.1 i) x3 D = some D' ∧ f_X8_pays fu (D.2.1 i) (D.2.2.1 i) x3 s = some s' ∧ RD n' D' s' ∧ (∀ k, k ≠ 4 → ¬ (122 ≤ k ∧ k < 272) → s' k = s k) ∧ VD1 n' D' pn ∧ VD2 K n' D' ∧ (∀ k, k < n' → ∃ k0, k0 < n ∧ D'.2.1 k = D.2.1 k0 ∧ D'.2.2.1 k = D.2.2.1 k0 ∧ (D'.2.2.2.1 k).toInt ≤ (D.2.2.2.1 k0).toInt)
    ∧ (∀ k0, k0 < n → k0 ≠ i → ∃ k, k < n' ∧ D'.2.1 k = D.2.1 k0 ∧ D'.2.2.1 k = D.2.2.1 k0 ∧ D'.2.2.2.1 k = D.2.2.2.1 k0 ∧ D'.2.2.2.2.1 k = D.2.2.2.2.1 k0)
    ∧ ((x3.toInt = (D.2.2.2.1 i).toInt + (D.2.2.2.2.1 i).toInt ∧ n' + 1 = n ∧ ∀ k, k < n' → ¬ (D'.2.1 k = D.2.1 i ∧ D'.2.2.1 k = D.2.2.1 i)) ∨ (x3.toInt < (D.2.2.2.1 i).toInt + (D.2.2.2.2.1 i).toInt ∧ n' = n ∧ D'.2.1 i = D.2.1 i ∧ D'.2.2.1 i = D.2.2.1 i ∧ (D'.2.2.2.1 i + D'.2.2.2.2.1 i).toInt = (D.2.2.2.1 i).toInt + (D.2.2.2.2.1 i).toInt - x3.toInt)) := by
  have hn := h.1
  obtain ⟨a1, a2, a3, a4, a5⟩ := h.2.2.2 i hi
  obtain ⟨r, g1, g2, g3⟩ := d_find h (fu := fu) (by omega) (D.2.1 i) (D.2.2.1 i)
  have hr : r = nI i := by
    rcases g3 with ⟨rfl, g3⟩ | ⟨j, hj, rfl, c1, c2⟩
    · exact absurd ⟨rfl, rfl⟩ (g3 i hi)
    · rw [v1.uniq hj hi c1 c2]
  subst hr
  have b2 := v2 i hi
  have hm := y_minT x3 (D.2.2.2.2.1 i)
  generalize hM : xminL x3 (D.2.2.2.2.1 i) = M at hm
  have e1 : (D.2.2.2.2.1 i - M).toInt = (D.2.2.2.2.1 i).toInt - M.toInt := y_subL (by omega) (by omega)
  have e2 : (x3 - M).toInt = x3.toInt - M.toInt := y_subL (by omega) (by omega)
  have e3 : (D.2.2.2.1 i - (x3 - M)).toInt = (D.2.2.2.1 i).toInt - (x3.toInt - M.toInt) := by
    rw [y_subL (by omega) (by omega), e2]
  generalize hp' : D.2.2.2.1 i - (x3 - M) = pr' at e3
  generalize hi' : D.2.2.2.2.1 i - M = in' at e1
  have e4 : (pr' + in').toInt = (D.2.2.2.1 i).toInt + (D.2.2.2.2.1 i).toInt - x3.toInt := by
    rw [y_addL (by omega) (by omega)]; omega
  let D1 : sDeb := (D.1, D.2.1, D.2.2.1, vp_updL D.2.2.2.1 i pr', vp_updL D.2.2.2.2.1 i in', D.2.2.2.2.2)
  let s1 : xF64 := vp_updL (vp_updL s (122 + 5 * i + 3) in') (122 + 5 * i + 2) pr'
  have h1 : RD n D1 s1 := by
    refine ⟨hn, h.2.1, ?_, fun k hk => ?_⟩
    · show vp_updL (vp_updL s (122 + 5 * i + 3) in') (122 + 5 * i + 2) pr' 4 = _
      rw [y_un (by omega), y_un (by omega)]; exact h.2.2.1
    · show vp_updL (vp_updL s (122 + 5 * i + 3) in') (122 + 5 * i + 2) pr' (122 + 5 * k) = _ ∧ vp_updL (vp_updL s (122 + 5 * i + 3) in') (122 + 5 * i + 2) pr' (122 + 5 * k + 1) = _ ∧ vp_updL (vp_updL s (122 + 5 * i + 3) in') (122 + 5 * i + 2) pr' (122 + 5 * k + 2) = vp_updL D.2.2.2.1 i pr' k ∧ vp_updL (vp_updL s (122 + 5 * i + 3) in') (122 + 5 * i + 2) pr' (122 + 5 * k + 3) = vp_updL D.2.2.2.2.1 i in' k ∧ vp_updL (vp_updL s (122 + 5 * i + 3) in') (122 + 5 * i + 2) pr' (122 + 5 * k + 4) = _
      by_cases e : k = i
      · subst e
        simp (disch := omega) only [y_un, y_us]
        exact ⟨a1, a2, trivial, trivial, a5⟩
      · simp (disch := omega) only [y_un]
        exact h.2.2.2 k hk
  have f1 : f_X2_amountOf (nI i) D1 = some (pr' + in') := by
    rw [(d_amt h1 hi).1]
    show some (vp_updL D.2.2.2.1 i pr' i + vp_updL D.2.2.2.2.1 i in' i) = _
    rw [y_us, y_us]
  have f2 : f_X8_owing (nI i) s1 = some (pr' + in') := by
    rw [(d_amt h1 hi).2]
    show some (vp_updL D.2.2.2.1 i pr' i + vp_updL D.2.2.2.2.1 i in' i) = _
    rw [y_us, y_us]
  have z1 : ∀ k, k ≠ 4 → ¬ (122 ≤ k ∧ k < 272) → s1 k = s k := fun k hk hk2 => by
    show vp_updL (vp_updL s (122 + 5 * i + 3) in') (122 + 5 * i + 2) pr' k = _
    rw [y_un (by omega), y_un (by omega)]
  have r1 : f_X2_reduce fu (D.2.1 i) (D.2.2.1 i) x3 D = (if 0 < pr' + in' then some D1 else (xb1 (f_X2_removeAt fu (nI i) D1) fun z => some z)) := by
    have x0 : xin (nI i) 30 = true := y_in (by omega) (by omega)
    have x1 : (nI i).toNatClampNeg = i := y_cl (by omega)
    have xn : ¬ nI i = -1 := fun q => by
      have := y_nm1 (i := i) (by omega)
      rw [q] at this
      simp at this
    rw [f_X2_reduce, g1, xb1_s, if_neg xn, y_xk x0, y_xk x0, y_xk x0, y_xk x0, y_xk x0, x1, hM, hi', hp']
    show xb1 (f_X2_amountOf (nI i) D1) _ = _
    rw [f1, xb1_s]
  have r2 : f_X8_pays fu (D.2.1 i) (D.2.2.1 i) x3 s = (if pr' + in' = 0 then f_X8_pays_82 fu fu (nI (122 + 5 * i)) s1 else some s1) := by
    rw [f_X8_pays, g2, xb1_s, d_at3, xb1_s, y_xk (y_in (by omega) (by omega)), y_cl (by omega), a4, y_least, xb1_s, hM, xb1_s, y_xk (y_in (by omega) (by omega)), y_xk (y_in (by omega) (by omega)), d_at2, xb1_s, y_xk (y_in (by omega) (by omega)), y_xk (y_in (by omega) (by omega)), y_cl (by omega), a4, hi', y_cl (by omega), y_un (show 122 + 5 * i + 2 ≠ 122 + 5 * i + 3 by omega), a3, hp', d_at0]
    show xb1 (f_X8_owing (nI i) s1) _ = _
    rw [f2, xb1_s, xb1_s]
  rw [r1, r2]
  by_cases hT : x3.toInt = (D.2.2.2.1 i).toInt + (D.2.2.2.2.1 i).toInt
  · have t0 : pr' + in' = 0 := by rw [y_eq64, y_z]; omega
    have t1 : ¬ (0 : Int64) < pr' + in' := by rw [t0]; decide
    rw [if_neg t1, if_pos t0]
    have w1 : f_X2_removeAt fu (nI i) D1 = some (nI (n - 1), ysh i n D.2.1, ysh i n D.2.2.1, ysh i n (vp_updL D.2.2.2.1 i pr'), ysh i n (vp_updL D.2.2.2.2.1 i in'), ysh i n D.2.2.2.2.2) := d_rm hn (n - 1 - i) i fu D1 h.2.1 (by omega) (by omega)
    obtain ⟨s2, w2, w4⟩ := d_shl (fu := fu) hn hi (e := 122 + 5 * (n - 1)) rfl hfu (s1 := s1) h1.2.2.1
    have key : ∀ k, k < n - 1 → ∃ k0, k0 < n ∧ k0 ≠ i ∧ (∀ (α : Type) (f : Nat → α), ysh i n f k = f k0) ∧ (k0 = k + 1 ∧ i ≤ k ∨ k0 = k ∧ k < i) := fun k hk => by
      by_cases c : i ≤ k
      · exact ⟨k + 1, by omega, by omega, fun α f => if_pos ⟨c, hk⟩, .inl ⟨rfl, c⟩⟩
      · exact ⟨k, by omega, by omega, fun α f => if_neg (by omega), .inr ⟨rfl, by omega⟩⟩
    have key2 : ∀ k0, k0 < n → k0 ≠ i → ∃ k, k < n - 1 ∧ (∀ (α : Type) (f : Nat → α), ysh i n f k = f k0) := fun k0 hk hne => by
      by_cases c : k0 < i
      · exact ⟨k0, by omega, fun α f => if_neg (by omega)⟩
      · refine ⟨k0 - 1, by omega, fun α f => ?_⟩
        have : ysh i n f (k0 - 1) = f (k0 - 1 + 1) := if_pos (by omega)
        rw [this, show k0 - 1 + 1 = k0 by omega]
    refine ⟨n - 1, (nI (n - 1), ysh i n D.2.1, ysh i n D.2.2.1, ysh i n (vp_updL D.2.2.2.1 i pr'), ysh i n (vp_updL D.2.2.2.2.1 i in'), ysh i n D.2.2.2.2.2), vp_updL s2 4 (lN (n - 1)), by rw [w1]; rfl, w2, ⟨by omega, rfl, y_us _ _ _, fun k hk => ?_⟩, fun k hk hk2 => ?_, ⟨fun k hk => ?_, fun j k hjk hk => ?_⟩, fun k hk => ?_, fun k hk => ?_, fun k0 hk0 hne => ?_, .inl ⟨hT, by omega, fun k hk => ?_⟩⟩
    · obtain ⟨k0, q1', q2', q3', q4'⟩ := key k hk
      have hh : s1 (122 + 5 * k0) = (D.2.1 k0).toInt64 ∧ s1 (122 + 5 * k0 + 1) = (D.2.2.1 k0).toInt64 ∧ s1 (122 + 5 * k0 + 2) = vp_updL D.2.2.2.1 i pr' k0 ∧ s1 (122 + 5 * k0 + 3) = vp_updL D.2.2.2.2.1 i in' k0 ∧ s1 (122 + 5 * k0 + 4) = D.2.2.2.2.2 k0 := h1.2.2.2 k0 q1'
      rw [y_un q2', y_un q2'] at hh
      simp only [q3']
      rw [y_un q2', y_un q2', y_un (show 122 + 5 * k ≠ 4 by omega), y_un (show 122 + 5 * k + 1 ≠ 4 by omega), y_un (show 122 + 5 * k + 2 ≠ 4 by omega), y_un (show 122 + 5 * k + 3 ≠ 4 by omega), y_un (show 122 + 5 * k + 4 ≠ 4 by omega), w4, w4, w4, w4, w4]
      rcases q4' with ⟨rfl, c⟩ | ⟨rfl, c⟩
      · rw [if_pos (by omega), if_pos (by omega), if_pos (by omega), if_pos (by omega), if_pos (by omega)]
        have e0 : 122 + 5 * (k + 1) = 122 + 5 * k + 5 := by omega
        have e1 : 122 + 5 * k + 1 + 5 = 122 + 5 * k + 5 + 1 := by omega
        have e2 : 122 + 5 * k + 2 + 5 = 122 + 5 * k + 5 + 2 := by omega
        have e3 : 122 + 5 * k + 3 + 5 = 122 + 5 * k + 5 + 3 := by omega
        have e4 : 122 + 5 * k + 4 + 5 = 122 + 5 * k + 5 + 4 := by omega
        rw [e0] at hh
        rw [e1, e2, e3, e4]
        exact hh
      · rw [if_neg (by omega), if_neg (by omega), if_neg (by omega), if_neg (by omega), if_neg (by omega)]
        exact hh
    · rw [y_un hk, w4, if_neg (by omega)]
      exact z1 k hk hk2
    · obtain ⟨k0, q1', q2', q3', q4'⟩ := key k hk
      simp only [q3']
      exact v1.1 k0 q1'
    · obtain ⟨j0, p1, p2, p3, p4⟩ := key j (by omega)
      obtain ⟨k0, q1', q2', q3', q4'⟩ := key k hk
      simp only [p3, q3']
      exact v1.2 j0 k0 (by omega) q1'
    · obtain ⟨k0, q1', q2', q3', q4'⟩ := key k hk
      simp only [q3']
      rw [y_un q2', y_un q2']
      exact v2 k0 q1'
    · obtain ⟨k0, q1', q2', q3', q4'⟩ := key k hk
      refine ⟨k0, q1', ?_⟩
      simp only [q3']
      rw [y_un q2']
      exact ⟨trivial, trivial, Int.le_refl _⟩
    · obtain ⟨k, p1, p2⟩ := key2 k0 hk0 hne
      refine ⟨k, p1, ?_⟩
      simp only [p2]
      rw [y_un hne, y_un hne]
      exact ⟨trivial, trivial, rfl, rfl⟩
    · obtain ⟨k0, q1', q2', q3', q4'⟩ := key k hk
      simp only [q3']
      rintro ⟨m1, m2⟩
      exact q2' (v1.uniq q1' hi m1 m2)
  · have t0 : ¬ pr' + in' = 0 := by rw [y_eq64, y_z]; omega
    have t1 : (0 : Int64) < pr' + in' := by rw [y_lt64, y_z]; omega
    rw [if_pos t1, if_neg t0]
    refine ⟨n, D1, s1, rfl, rfl, h1, z1, v1, fun k hk => ?_, fun k hk => ?_, fun k0 hk0 hne => ?_, .inr ⟨by omega, rfl, rfl, rfl, ?_⟩⟩
    · have vk := v2 k hk
      show 0 ≤ (vp_updL D.2.2.2.1 i pr' k).toInt ∧ 0 ≤ (vp_updL D.2.2.2.2.1 i in' k).toInt ∧ 0 < (vp_updL D.2.2.2.1 i pr' k).toInt + (vp_updL D.2.2.2.2.1 i in' k).toInt ∧ (vp_updL D.2.2.2.2.1 i in' k).toInt ≤ K * 2000000000000 ∧ 0 ≤ (D.2.2.2.2.2 k).toInt ∧ (D.2.2.2.2.2 k).toInt < 3600000
      by_cases e : k = i
      · subst e
        rw [y_us, y_us]
        omega
      · rw [y_un e, y_un e]
        exact vk
    · refine ⟨k, hk, rfl, rfl, ?_⟩
      show (vp_updL D.2.2.2.1 i pr' k).toInt ≤ _
      by_cases e : k = i
      · subst e
        rw [y_us]
        omega
      · rw [y_un e]
        exact Int.le_refl _
    · refine ⟨k0, hk0, rfl, rfl, ?_⟩
      show vp_updL D.2.2.2.1 i pr' k0 = _ ∧ vp_updL D.2.2.2.2.1 i in' k0 = _
      rw [y_un hne, y_un hne]
      exact ⟨rfl, rfl⟩
    · show (vp_updL D.2.2.2.1 i pr' i + vp_updL D.2.2.2.2.1 i in' i).toInt = _
      rw [y_us, y_us]
      exact e4
