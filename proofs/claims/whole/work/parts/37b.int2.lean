/-- j debts of day d have grown -/
def yDd (D : sDeb) (q : Int64) (d j : Nat) : sDeb := (D.1, D.2.1, D.2.2.1, D.2.2.2.1, (fun k => D.2.2.2.2.1 k + (if k < j then yQ (D.2.2.2.2.2 k) (D.2.2.2.1 k * q) (d + 1) else yQ (D.2.2.2.2.2 k) (D.2.2.2.1 k * q) d)), (fun k => if k < j then yR (D.2.2.2.2.2 k) (D.2.2.2.1 k * q) (d + 1) else yR (D.2.2.2.2.2 k) (D.2.2.2.1 k * q) d))
def yTd (D : sDeb) (q : Int64) (n d j : Nat) : Int64 := ysum (fun k => if k < j then yQ (D.2.2.2.2.2 k) (D.2.2.2.1 k * q) (d + 1) else yQ (D.2.2.2.2.2 k) (D.2.2.2.1 k * q) d) n
def yA1 (gn : Nat) (q : Int64) (s : xF64) : Prop := gn ≤ 3 ∧ s 1 = lN gn ∧ s (6 + gn) = q
theorem g_day {n : Nat} {D : sDeb} {q : Int64} {gn : Nat} (hok : ∀ k, k < n → yOk (D.2.2.2.2.2 k) (D.2.2.2.1 k * q)) {fu : Nat} {kx : Int32 → Int32 → xF64 → Int64 → Option (Int32 × xF64 × Int64)} (x1 x2 : Int32) {d : Nat} (hd : d < 4000) : ∀ l j m s, j + l = n → l < m → RD n (yDd D q d j) s → yA1 gn q s → ∃ s', f_X8_passing_45 kx fu m x1 x2 (nI j) s (yTd D q n d j) = kx x1 x2 s' (yTd D q n d n) ∧ RD n (yDd D q d n) s' ∧ yA1 gn q s' ∧ ∀ k, ¬ (122 ≤ k ∧ k < 272) → s' k = s k := by
  intro l
  induction l with
  | zero =>
    intro j m s hj hm h ha
    obtain ⟨m, rfl⟩ : ∃ m', m = m' + 1 := ⟨m - 1, by omega⟩
    have hn := h.1
    have hj' : j = n := by omega
    subst hj'
    refine ⟨s, ?_, h, ha, fun _ _ => rfl⟩
    simp (disch := omega) only [f_X8_passing_45, d_debts h, xb1_s, y_self, if_true]
  | succ l ih =>
    intro j m s hj hm h ha
    obtain ⟨m, rfl⟩ : ∃ m', m = m' + 1 := ⟨m - 1, by omega⟩
    have hn := h.1
    obtain ⟨a1, a2, a3, a4, a5⟩ := h.2.2.2 j (by omega)
    have ok := hok j (by omega)
    have hjj : ¬ j < j := by omega
    have a4' : s (122 + 5 * j + 3) = D.2.2.2.2.1 j + yQ (D.2.2.2.2.2 j) (D.2.2.2.1 j * q) d := by
      rw [a4]
      show D.2.2.2.2.1 j + (if j < j then _ else _) = _
      rw [if_neg hjj]
    have a5' : s (122 + 5 * j + 4) = yR (D.2.2.2.2.2 j) (D.2.2.2.1 j * q) d := by
      rw [a5]
      show (if j < j then _ else _) = _
      rw [if_neg hjj]
    have a3' : s (122 + 5 * j + 2) = D.2.2.2.1 j := a3
    obtain ⟨y1, y2⟩ := y_day ok hd
    rw [y1] at y2
    obtain ⟨b1, b2, b3⟩ := ha
    have hg : f_X8_grows (nI j) s = some (yQ (D.2.2.2.2.2 j) (D.2.2.2.1 j * q) (d + 1) - yQ (D.2.2.2.2.2 j) (D.2.2.2.1 j * q) d, vp_updL (vp_updL s (122 + 5 * j + 4) (yR (D.2.2.2.2.2 j) (D.2.2.2.1 j * q) (d + 1))) (122 + 5 * j + 3) (D.2.2.2.2.1 j + yQ (D.2.2.2.2.2 j) (D.2.2.2.1 j * q) (d + 1))) := by
      have e9 : D.2.2.2.2.1 j + yQ (D.2.2.2.2.2 j) (D.2.2.2.1 j * q) d + (yQ (D.2.2.2.2.2 j) (D.2.2.2.1 j * q) (d + 1) - yQ (D.2.2.2.2.2 j) (D.2.2.2.1 j * q) d) = D.2.2.2.2.1 j + yQ (D.2.2.2.2.2 j) (D.2.2.2.1 j * q) (d + 1) := y_chg _ _ _
      simp (disch := omega) only [f_X8_grows, d_at2, d_at3, d_at4, xb1_s, y_in, xk_t, y_cl, q1, q6, b2, lN_i, nI_add, b3, a3', a4', a5', y2, y_un, y1, e9]
    have hs1 : RD n (yDd D q d (j + 1)) (vp_updL (vp_updL s (122 + 5 * j + 4) (yR (D.2.2.2.2.2 j) (D.2.2.2.1 j * q) (d + 1))) (122 + 5 * j + 3) (D.2.2.2.2.1 j + yQ (D.2.2.2.2.2 j) (D.2.2.2.1 j * q) (d + 1))) := by
      refine ⟨hn, h.2.1, by rw [y_un (by omega), y_un (by omega)]; exact h.2.2.1, fun k hk => ?_⟩
      by_cases e : k = j
      · subst e
        simp (disch := omega) only [y_un, y_us]
        refine ⟨a1, a2, a3, ?_, ?_⟩
        · show _ = D.2.2.2.2.1 k + (if k < k + 1 then _ else _)
          rw [if_pos (by omega)]
        · show _ = (if k < k + 1 then _ else _)
          rw [if_pos (by omega)]
      · simp (disch := omega) only [y_un]
        obtain ⟨c1, c2, c3, c4, c5⟩ := h.2.2.2 k hk
        refine ⟨c1, c2, c3, ?_, ?_⟩
        · rw [c4]
          show D.2.2.2.2.1 k + (if k < j then _ else _) = D.2.2.2.2.1 k + (if k < j + 1 then _ else _)
          by_cases l : k < j
          · rw [if_pos l, if_pos (by omega)]
          · rw [if_neg l, if_neg (by omega)]
        · rw [c5]
          show (if k < j then _ else _) = (if k < j + 1 then _ else _)
          by_cases l : k < j
          · rw [if_pos l, if_pos (by omega)]
          · rw [if_neg l, if_neg (by omega)]
    have ht : yTd D q n d (j + 1) = yTd D q n d j + (yQ (D.2.2.2.2.2 j) (D.2.2.2.1 j * q) (d + 1) - yQ (D.2.2.2.2.2 j) (D.2.2.2.1 j * q) d) := by
      unfold yTd
      rw [ysum_chg (j := j) (by omega) (f := fun k => if k < j then yQ (D.2.2.2.2.2 k) (D.2.2.2.1 k * q) (d + 1) else yQ (D.2.2.2.2.2 k) (D.2.2.2.1 k * q) d) (fun k hk hne => by
        show (if k < j then _ else _) = (if k < j + 1 then _ else _)
        by_cases l : k < j
        · rw [if_pos l, if_pos (by omega)]
        · rw [if_neg l, if_neg (by omega)])]
      show _ + ((if j < j + 1 then _ else _) - (if j < j then _ else _)) = _
      rw [if_pos (by omega), if_neg hjj]
    obtain ⟨s', g1, g2, g3, g4⟩ := ih (j + 1) m _ (by omega) (by omega) hs1 ⟨b1, by rw [y_un (by omega), y_un (by omega)]; exact b2, by rw [y_un (by omega), y_un (by omega)]; exact b3⟩
    refine ⟨s', ?_, g2, g3, fun k hk => ?_⟩
    · rw [← g1, ht]
      simp (disch := omega) only [f_X8_passing_45, d_debts h, xb1_s, y_nge, if_false, hg, xb2_s, nI_1]
    · rw [g4 k hk, y_un (by omega), y_un (by omega)]
theorem g_days {n : Nat} {D : sDeb} {q : Int64} {gn N : Nat} (hN : N ≤ 999) (hok : ∀ k, k < n → yOk (D.2.2.2.2.2 k) (D.2.2.2.1 k * q)) {fu : Nat} (hfu : 40 < fu) : ∀ l d m s, d + l = N → l < m → RD n (yDd D q d 0) s → yA1 gn q s → ∃ s', f_X8_passing_38 fu m (nI N) (nI d) s (yTd D q n d 0) = some (0, vp_updL s' 0 (s 0 + lN N), yTd D q n N 0) ∧ RD n (yDd D q N 0) s' ∧ ∀ k, ¬ (122 ≤ k ∧ k < 272) → s' k = s k := by
  intro l
  induction l with
  | zero =>
    intro d m s hj hm h ha
    obtain ⟨m, rfl⟩ : ∃ m', m = m' + 1 := ⟨m - 1, by omega⟩
    have hj' : d = N := by omega
    subst hj'
    refine ⟨s, ?_, h, fun _ _ => rfl⟩
    simp (disch := omega) only [f_X8_passing_38, y_self, if_true, q0, y_in, xk_t, y_cl, nI_l]
  | succ l ih =>
    intro d m s hj hm h ha
    obtain ⟨m, rfl⟩ : ∃ m', m = m' + 1 := ⟨m - 1, by omega⟩
    have hn := h.1
    obtain ⟨s1, g1, g2, g3, g4⟩ := g_day hok (fu := fu) (kx := fun n15 n16 uF1_17 uF11_18 => f_X8_passing_38 fu m n15 (n16 + 1) uF1_17 uF11_18) (nI N) (nI d) (d := d) (by omega) n 0 fu s (by omega) (by omega) h ha
    have h2 : RD n (yDd D q (d + 1) 0) s1 := by
      refine g2.cong rfl (fun k hk => ⟨rfl, rfl, rfl, ?_, ?_⟩)
      · show D.2.2.2.2.1 k + (if k < 0 then _ else _) = D.2.2.2.2.1 k + (if k < n then _ else _)
        rw [if_neg (by omega), if_pos hk]
      · show (if k < 0 then yR (D.2.2.2.2.2 k) (D.2.2.2.1 k * q) (d + 1 + 1) else yR (D.2.2.2.2.2 k) (D.2.2.2.1 k * q) (d + 1)) = (if k < n then yR (D.2.2.2.2.2 k) (D.2.2.2.1 k * q) (d + 1) else yR (D.2.2.2.2.2 k) (D.2.2.2.1 k * q) d)
        rw [if_neg (by omega), if_pos hk]
    have ht : yTd D q n d n = yTd D q n (d + 1) 0 := by
      unfold yTd
      refine ysum_cong (fun k hk => ?_)
      rw [if_pos hk, if_neg (by omega)]
    obtain ⟨s', k1, k2, k3⟩ := ih (d + 1) m s1 (by omega) (by omega) h2 g3
    refine ⟨s', ?_, k2, fun k hk => by rw [k3 k hk, g4 k hk]⟩
    have hx0 : nI 0 = 0 := rfl
    rw [hx0] at g1
    rw [← g4 0 (by omega), ← k1, ← ht, ← nI_1]
    simp (disch := omega) only [f_X8_passing_38, y_nge, if_false]
    exact g1
theorem g_class {n : Nat} {D : sDeb} (hn : n ≤ 30) {rt : Int32} {N : Nat} (hN : N ≤ 999) (hok : ∀ k, k < n → yOk (D.2.2.2.2.2 k) (D.2.2.2.1 k * rt.toInt64)) {fu : Nat} : ∀ l j m E, j + l = n → l < m → E.1 = nI n → (∀ k, k < n → E.2.1 k = D.2.1 k ∧ E.2.2.1 k = D.2.2.1 k ∧ E.2.2.2.1 k = D.2.2.2.1 k ∧ E.2.2.2.2.1 k = (if k < j then D.2.2.2.2.1 k + yQ (D.2.2.2.2.2 k) (D.2.2.2.1 k * rt.toInt64) N else D.2.2.2.2.1 k) ∧ E.2.2.2.2.2 k = (if k < j then yR (D.2.2.2.2.2 k) (D.2.2.2.1 k * rt.toInt64) N else D.2.2.2.2.2 k)) → ∃ E', f_X2_addInterest_5 fu m (nI N) rt (ysum (fun k => yQ (D.2.2.2.2.2 k) (D.2.2.2.1 k * rt.toInt64) N) j) (nI j) E = some (ysum (fun k => yQ (D.2.2.2.2.2 k) (D.2.2.2.1 k * rt.toInt64) N) n, E') ∧ E'.1 = nI n ∧ ∀ k, k < n → E'.2.1 k = D.2.1 k ∧ E'.2.2.1 k = D.2.2.1 k ∧ E'.2.2.2.1 k = D.2.2.2.1 k ∧ E'.2.2.2.2.1 k = D.2.2.2.2.1 k + yQ (D.2.2.2.2.2 k) (D.2.2.2.1 k * rt.toInt64) N ∧ E'.2.2.2.2.2 k = yR (D.2.2.2.2.2 k) (D.2.2.2.1 k * rt.toInt64) N := by
  intro l
  induction l with
  | zero =>
    intro j m E hj hm h1 hE
    obtain ⟨m, rfl⟩ : ∃ m', m = m' + 1 := ⟨m - 1, by omega⟩
    have hj' : j = n := by omega
    subst hj'
    refine ⟨E, ?_, h1, fun k hk => ?_⟩
    · simp (disch := omega) only [f_X2_addInterest_5, h1, y_self, if_true]
    · have := hE k hk
      rw [if_pos hk, if_pos hk] at this
      exact this
  | succ l ih =>
    intro j m E hj hm h1 hE
    obtain ⟨m, rfl⟩ : ∃ m', m = m' + 1 := ⟨m - 1, by omega⟩
    obtain ⟨c1, c2, c3, c4, c5⟩ := hE j (by omega)
    rw [if_neg (by omega)] at c4 c5
    obtain ⟨y1, y2⟩ := y_days (hok j (by omega)) hN
    rw [y1] at y2
    obtain ⟨E', g1, g2, g3⟩ := ih (j + 1) m (nI n, E.2.1, E.2.2.1, E.2.2.2.1, vp_updL E.2.2.2.2.1 j (D.2.2.2.2.1 j + yQ (D.2.2.2.2.2 j) (D.2.2.2.1 j * rt.toInt64) N), vp_updL E.2.2.2.2.2 j (yR (D.2.2.2.2.2 j) (D.2.2.2.1 j * rt.toInt64) N)) (by omega) (by omega) rfl (fun k hk => by
      obtain ⟨d1, d2, d3, d4, d5⟩ := hE k hk
      refine ⟨d1, d2, d3, ?_, ?_⟩
      · show vp_updL E.2.2.2.2.1 j _ k = _
        by_cases e : k = j
        · subst e
          rw [y_us, if_pos (by omega)]
        · rw [y_un e, d4]
          by_cases l : k < j
          · rw [if_pos l, if_pos (by omega)]
          · rw [if_neg l, if_neg (by omega)]
      · show vp_updL E.2.2.2.2.2 j _ k = _
        by_cases e : k = j
        · subst e
          rw [y_us, if_pos (by omega)]
        · rw [y_un e, d5]
          by_cases l : k < j
          · rw [if_pos l, if_pos (by omega)]
          · rw [if_neg l, if_neg (by omega)])
    refine ⟨E', ?_, g2, g3⟩
    rw [← g1]
    simp (disch := omega) only [f_X2_addInterest_5, h1, y_nge, if_false, y_in, xk_t, y_cl, c3, c4, c5, nI_l, y1, y2, nI_1, ysum]
theorem d_pass {n pn : Nat} {D : sDeb} {s : xF64} (h : RD n D s) (v1 : VD1 n D pn) {K : Int} (hK : K ≤ 20000) (v2 : VD2 K n D) (hpr : ∀ k, k < n → (D.2.2.2.1 k).toInt ≤ 3584100000000) {rt : Int32} (hr0 : 0 ≤ rt.toInt) (hr : rt.toInt ≤ 2000) {gn N : Nat} (hA : yA1 gn rt.toInt64 s) (hN : N ≤ 999) {fu : Nat} (hfu : 1200 < fu) : ∃ T D' s', f_X2_addInterest fu (nI N) rt D = some (T, D') ∧ f_X8_passing_38 fu fu (nI N) 0 s 0 = some (0, vp_updL s' 0 (s 0 + lN N), T) ∧ RD n D' s' ∧ VD1 n D' pn ∧ VD2 (K + 1) n D' ∧ (∀ k, k < n → D'.2.1 k = D.2.1 k ∧ D'.2.2.2.1 k = D.2.2.2.1 k) ∧ ∀ k, ¬ (122 ≤ k ∧ k < 272) → s' k = s k := by
  have hn := h.1
  have hAm : ∀ k, k < n → (D.2.2.2.1 k * rt.toInt64).toInt = (D.2.2.2.1 k).toInt * rt.toInt ∧ 0 ≤ (D.2.2.2.1 k).toInt * rt.toInt ∧ (D.2.2.2.1 k).toInt * rt.toInt ≤ 3584100000000 * 2000 := fun k hk => by
    have b := v2 k hk
    have g1 : 0 ≤ (D.2.2.2.1 k).toInt * rt.toInt := Int.mul_nonneg b.1 hr0
    have g2 : (D.2.2.2.1 k).toInt * rt.toInt ≤ 3584100000000 * 2000 := Int.mul_le_mul (hpr k hk) hr hr0 (by omega)
    refine ⟨?_, g1, g2⟩
    rw [y_mulL (by rw [y_w]; omega) (by rw [y_w]; omega), y_w]
  have hok : ∀ k, k < n → yOk (D.2.2.2.2.2 k) (D.2.2.2.1 k * rt.toInt64) := fun k hk => by
    have b := v2 k hk
    obtain ⟨e, g1, g2⟩ := hAm k hk
    refine ⟨by omega, by omega, ?_, ?_⟩
    · rw [e]; exact g1
    · rw [e]; omega
  have h0 : RD n (yDd D rt.toInt64 0 0) s := by
    refine h.cong rfl (fun k hk => ⟨rfl, rfl, rfl, ?_, ?_⟩)
    · show D.2.2.2.2.1 k + (if k < 0 then _ else _) = _
      rw [if_neg (by omega), (y_d0 (hok k hk)).1, Int64.add_zero]
    · show (if k < 0 then yR (D.2.2.2.2.2 k) (D.2.2.2.1 k * rt.toInt64) (0 + 1) else yR (D.2.2.2.2.2 k) (D.2.2.2.1 k * rt.toInt64) 0) = _
      rw [if_neg (by omega), (y_d0 (hok k hk)).2]
  have ht0 : yTd D rt.toInt64 n 0 0 = 0 := by
    unfold yTd
    rw [ysum_cong (g := fun _ => 0) (fun k hk => by rw [if_neg (by omega), (y_d0 (hok k hk)).1])]
    exact ysum_zero n
  obtain ⟨s', g1, g2, g3⟩ := g_days hN hok (fu := fu) (by omega) N 0 fu s (by omega) (by omega) h0 hA
  obtain ⟨E, k1, k2, k3⟩ := g_class hn hN hok (fu := fu) n 0 fu D (by omega) (by omega) h.2.1 (fun k hk => ⟨rfl, rfl, rfl, (if_neg (by omega)).symm, (if_neg (by omega)).symm⟩)
  have hT : yTd D rt.toInt64 n N 0 = ysum (fun k => yQ (D.2.2.2.2.2 k) (D.2.2.2.1 k * rt.toInt64) N) n := by
    unfold yTd
    exact ysum_cong (fun k hk => if_neg (by omega))
  rw [ht0, hT] at g1
  refine ⟨_, E, s', k1, g1, ?_, ⟨fun k hk => ?_, fun i j hij hj => ?_⟩, fun k hk => ?_, fun k hk => ⟨(k3 k hk).1, (k3 k hk).2.2.1⟩, g3⟩
  · refine g2.cong (by rw [k2]; exact h.2.1.symm) (fun k hk => ?_)
    obtain ⟨m1, m2, m3, m4, m5⟩ := k3 k hk
    refine ⟨m1, m2, m3, ?_, ?_⟩
    · rw [m4]
      show _ = D.2.2.2.2.1 k + (if k < 0 then _ else _)
      rw [if_neg (by omega)]
    · rw [m5]
      show _ = (if k < 0 then yR (D.2.2.2.2.2 k) (D.2.2.2.1 k * rt.toInt64) (N + 1) else yR (D.2.2.2.2.2 k) (D.2.2.2.1 k * rt.toInt64) N)
      rw [if_neg (by omega)]
  · obtain ⟨m1, m2, m3, m4, m5⟩ := k3 k hk
    rw [m1, m2]
    exact v1.1 k hk
  · obtain ⟨m1, m2, m3, m4, m5⟩ := k3 i (by omega)
    obtain ⟨l1, l2, l3, l4, l5⟩ := k3 j hj
    rw [m1, m2, l1, l2]
    exact v1.2 i j hij hj
  · obtain ⟨m1, m2, m3, m4, m5⟩ := k3 k hk
    have b := v2 k hk
    have ok := hok k hk
    have q := y_Qb9 ok hN
    have r := y_Rb ok (d := N) (by omega)
    have e : (D.2.2.2.2.1 k + yQ (D.2.2.2.2.2 k) (D.2.2.2.1 k * rt.toInt64) N).toInt = (D.2.2.2.2.1 k).toInt + (yQ (D.2.2.2.2.2 k) (D.2.2.2.1 k * rt.toInt64) N).toInt := y_addL (by omega) (by omega)
    rw [m3, m4, m5, e]
    clear m3 m4 m5 e
    omega
