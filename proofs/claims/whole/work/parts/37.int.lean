-- interest
def yG (u A : Int64) (d : Nat) : Int := u.toInt + A.toInt * (d : Int)
def yQ (u A : Int64) (d : Nat) : Int64 := Int64.ofInt (yG u A d / 3600000)
def yR (u A : Int64) (d : Nat) : Int64 := Int64.ofInt (yG u A d % 3600000)
theorem y_ofI {z : Int} (h1 : -9223372036854775808 ≤ z) (h2 : z < 9223372036854775808) : (Int64.ofInt z).toInt = z := by
  first
    | exact Int64.toInt_ofInt_of_le (by omega) (by omega)
    | (rw [Int64.toInt_ofInt]; exact y_bmL h1 h2)
def yOk (u A : Int64) : Prop := 0 ≤ u.toInt ∧ u.toInt < 3600000 ∧ 0 ≤ A.toInt ∧ A.toInt ≤ 7168200000000000
theorem y_gb {u A : Int64} (h : yOk u A) {d : Nat} (hd : d ≤ 4000) : 0 ≤ yG u A d ∧ yG u A d ≤ 28672800003600000000 := by
  obtain ⟨h1, h2, h3, h4⟩ := h
  unfold yG
  have g1 : 0 ≤ A.toInt * (d : Int) := Int.mul_nonneg h3 (by omega)
  have g2 : A.toInt * (d : Int) ≤ 7168200000000000 * 4000 := Int.mul_le_mul h4 (by omega) (by omega) (by omega)
  omega
theorem y_gb9 {u A : Int64} (h : yOk u A) {d : Nat} (hd : d ≤ 999) : 0 ≤ yG u A d ∧ yG u A d ≤ 7161031800003600000 := by
  obtain ⟨h1, h2, h3, h4⟩ := h
  unfold yG
  have g1 : 0 ≤ A.toInt * (d : Int) := Int.mul_nonneg h3 (by omega)
  have g2 : A.toInt * (d : Int) ≤ 7168200000000000 * 999 := Int.mul_le_mul h4 (by omega) (by omega) (by omega)
  omega
theorem y_gs (u A : Int64) (d : Nat) : yG u A (d + 1) = yG u A d + A.toInt := by
  unfold yG
  have : ((d + 1 : Nat) : Int) = (d : Int) + 1 := by omega
  rw [this, Int.mul_add, Int.mul_one]
  omega
theorem y_Qt {u A : Int64} (h : yOk u A) {d : Nat} (hd : d ≤ 4000) : (yQ u A d).toInt = yG u A d / 3600000 := by
  have := y_gb h hd
  exact y_ofI (by omega) (by omega)
theorem y_Rt {u A : Int64} (h : yOk u A) {d : Nat} (hd : d ≤ 4000) : (yR u A d).toInt = yG u A d % 3600000 := by
  have := y_gb h hd
  exact y_ofI (by omega) (by omega)
theorem y_U : (3600000 : Int64).toInt = 3600000 := rfl
theorem y_rem {x : Int64} (hx : 0 ≤ x.toInt) : (x / 3600000).toInt = x.toInt / 3600000 ∧ (x - x / 3600000 * 3600000).toInt = x.toInt % 3600000 := by
  have hr := y_rngL x
  have e1 : (x / 3600000).toInt = x.toInt / 3600000 := by rw [y_divL hx (by rw [y_U]; omega), y_U]
  have e2 : (x / 3600000 * 3600000).toInt = x.toInt / 3600000 * 3600000 := by
    rw [y_mulL (by rw [e1, y_U]; omega) (by rw [e1, y_U]; omega), e1, y_U]
  refine ⟨e1, ?_⟩
  rw [y_subL (by rw [e2]; omega) (by rw [e2]; omega), e2]
  omega
/-- a day -/
theorem y_day {u A : Int64} (h : yOk u A) {d : Nat} (hd : d < 4000) : (yR u A d + A) / 3600000 = yQ u A (d + 1) - yQ u A d ∧ (yR u A d + A) - (yR u A d + A) / 3600000 * 3600000 = yR u A (d + 1) := by
  have g := y_gb h (d := d) (by omega)
  have g1 := y_gb h (d := d + 1) (by omega)
  have gs := y_gs u A d
  have r := y_Rt h (d := d) (by omega)
  have r1 := y_Rt h (d := d + 1) (by omega)
  have q := y_Qt h (d := d) (by omega)
  have q1 := y_Qt h (d := d + 1) (by omega)
  obtain ⟨h1, h2, h3, h4⟩ := h
  have x : (yR u A d + A).toInt = yG u A d % 3600000 + A.toInt := by rw [y_addL (by omega) (by omega), r]
  have m := y_rem (x := yR u A d + A) (by omega)
  refine ⟨?_, ?_⟩
  · rw [y_eq64, m.1, y_subL (by omega) (by omega), q, q1, x]
    omega
  · rw [y_eq64, m.2, r1, x]
    omega
/-- all days at once -/
theorem y_days {u A : Int64} (h : yOk u A) {d : Nat} (hd : d ≤ 999) : (u + A * lN d) / 3600000 = yQ u A d ∧ (u + A * lN d) - (u + A * lN d) / 3600000 * 3600000 = yR u A d := by
  have g := y_gb9 h (d := d) hd
  have r := y_Rt h (d := d) (by omega)
  have q := y_Qt h (d := d) (by omega)
  obtain ⟨h1, h2, h3, h4⟩ := h
  have e0 : (lN d).toInt = (d : Int) := lN_toInt (by omega)
  have g2 : 0 ≤ A.toInt * (d : Int) := Int.mul_nonneg h3 (by omega)
  have e1 : (A * lN d).toInt = A.toInt * (d : Int) := by
    have : yG u A d = u.toInt + A.toInt * (d : Int) := rfl
    rw [y_mulL (by rw [e0]; omega) (by rw [e0]; omega), e0]
  have x : (u + A * lN d).toInt = yG u A d := by
    have : yG u A d = u.toInt + A.toInt * (d : Int) := rfl
    rw [y_addL (by rw [e1]; omega) (by rw [e1]; omega), e1, this]
  have m := y_rem (x := u + A * lN d) (by omega)
  refine ⟨?_, ?_⟩
  · rw [y_eq64, m.1, q, x]
  · rw [y_eq64, m.2, r, x]
theorem y_d0 {u A : Int64} (h : yOk u A) : yQ u A 0 = 0 ∧ yR u A 0 = u := by
  have q := y_Qt h (d := 0) (by omega)
  have r := y_Rt h (d := 0) (by omega)
  obtain ⟨h1, h2, h3, h4⟩ := h
  have e : yG u A 0 = u.toInt := by
    unfold yG
    have : ((0 : Nat) : Int) = 0 := rfl
    rw [this, Int.mul_zero, Int.add_zero]
  refine ⟨?_, ?_⟩
  · rw [y_eq64, q, e, y_z]
    omega
  · rw [y_eq64, r, e]
    omega
theorem y_chg (x y z : Int64) : x + y + (z - y) = x + z := by
  rw [Int64.add_assoc]
  congr 1
  rw [Int64.add_comm, Int64.sub_add_cancel]
theorem ysum_chg {f g : Nat → Int64} {j : Nat} : ∀ {n : Nat}, j < n → (∀ k, k < n → k ≠ j → f k = g k) → ysum g n = ysum f n + (g j - f j)
  | 0, hj, _ => absurd hj (Nat.not_lt_zero _)
  | n + 1, hj, h => by
    by_cases e : j = n
    · subst e
      rw [ysum_s, ysum_s, ysum_cong (fun k hk => h k (by omega) (by omega)), y_chg]
    · rw [ysum_s, ysum_s, ysum_chg (n := n) (by omega) (fun k hk hne => h k (by omega) hne), h n (by omega) (fun q => e q.symm)]
      rw [Int64.add_assoc, Int64.add_comm (g j - f j), ← Int64.add_assoc]
theorem ysum_zero : ∀ n, ysum (fun _ => 0) n = 0
  | 0 => rfl
  | n + 1 => by rw [ysum_s, ysum_zero n]; rfl
theorem RD.cong {n : Nat} {D E : sDeb} {s : xF64} (h : RD n D s) (h1 : E.1 = D.1) (hk : ∀ k, k < n → E.2.1 k = D.2.1 k ∧ E.2.2.1 k = D.2.2.1 k ∧ E.2.2.2.1 k = D.2.2.2.1 k ∧ E.2.2.2.2.1 k = D.2.2.2.2.1 k ∧ E.2.2.2.2.2 k = D.2.2.2.2.2 k) : RD n E s := by
  refine ⟨h.1, by rw [h1]; exact h.2.1, h.2.2.1, fun k hk' => ?_⟩
  obtain ⟨a1, a2, a3, a4, a5⟩ := hk k hk'
  rw [a1, a2, a3, a4, a5]
  exact h.2.2.2 k hk'
/-- j debts of day d have grown -/
def yDd (D : sDeb) (q : Int64) (d j : Nat) : sDeb := (D.1, D.2.1, D.2.2.1, D.2.2.2.1, (fun k => D.2.2.2.2.1 k + (if k < j then yQ (D.2.2.2.2.2 k) (D.2.2.2.1 k * q) (d + 1) else yQ (D.2.2.2.2.2 k) (D.2.2.2.1 k * q) d)), (fun k => if k < j then yR (D.2.2.2.2.2 k) (D.2.2.2.1 k * q) (d + 1) else yR (D.2.2.2.2.2 k) (D.2.2.2.1 k * q) d))
def yTd (D : sDeb) (q : Int64) (n d j : Nat) : Int64 := ysum (fun k => if k < j then yQ (D.2.2.2.2.2 k) (D.2.2.2.1 k * q) (d + 1) else yQ (D.2.2.2.2.2 k) (D.2.2.2.1 k * q) d) n
def yA1 (gn : Nat) (q : Int64) (s : xF64) : Prop := gn ≤ 3 ∧ s 1 = lN gn ∧ s (6 + gn) = q
theorem g_day {n : Nat} {D : sDeb} {q : Int64} {gn : Nat} (hok : ∀ k, k < n → yOk (D.2.2.2.2.2 k) (D.2.2.2.1 k * q)) {fu : Nat} {kx : Int32 → Int32 → xF64 → Int64 → Option (Int32 × xF64 × Int64)} (x1 x2 : Int32) {d : Nat} (hd : d < 4000) : ∀ l j m s, j + l = n → l < m → RD n (yDd D q d j) s → yA1 gn q s → ∃ s', f_X8_passing_45 kx fu m x1 x2 (nI j) s (yTd D q n d j) = kx x1 x2 s' (yTd D q n d n) ∧ RD n (yDd D q d n) s' ∧ yA1 gn q s' ∧ ∀ k, ¬ (122 ≤ k ∧ k < 272) → s' k = s k := by
  intro l
  induction l with
  | zero =>
    intro j m s hj hm h ha
    obtain ⟨m, rfl⟩ : ∃ m', m = m' + 1 := ⟨m - 1, by omega⟩
    have hn := h.1
    have hj' : j = n := by omega
    subst hj'
    refine ⟨s, ?_, h, ha, fun _ _ => rfl⟩
    simp (disch := omega) only [f_X8_passing_45, d_debts h, xb1_s, y_self, if_true]
  | succ l ih =>
    intro j m s hj hm h ha
    obtain ⟨m, rfl⟩ : ∃ m', m = m' + 1 := ⟨m - 1, by omega⟩
    have hn := h.1
    obtain ⟨a1, a2, a3, a4, a5⟩ := h.2.2.2 j (by omega)
    have ok := hok j (by omega)
    have hjj : ¬ j < j := by omega
    have a4' : s (122 + 5 * j + 3) = D.2.2.2.2.1 j + yQ (D.2.2.2.2.2 j) (D.2.2.2.1 j * q) d := by
      rw [a4]
      show D.2.2.2.2.1 j + (if j < j then _ else _) = _
      rw [if_neg hjj]
    have a5' : s (122 + 5 * j + 4) = yR (D.2.2.2.2.2 j) (D.2.2.2.1 j * q) d := by
      rw [a5]
      show (if j < j then _ else _) = _
      rw [if_neg hjj]
    have a3' : s (122 + 5 * j + 2) = D.2.2.2.1 j := a3
    obtain ⟨y1, y2⟩ := y_day ok hd
    obtain ⟨b1, b2, b3⟩ := ha
    have hg : f_X8_grows (nI j) s = some (yQ (D.2.2.2.2.2 j) (D.2.2.2.1 j * q) (d + 1) - yQ (D.2.2.2.2.2 j) (D.2.2.2.1 j * q) d, vp_updL (vp_updL s (122 + 5 * j + 4) (yR (D.2.2.2.2.2 j) (D.2.2.2.1 j * q) (d + 1))) (122 + 5 * j + 3) (D.2.2.2.2.1 j + yQ (D.2.2.2.2.2 j) (D.2.2.2.1 j * q) (d + 1))) := by
      have e9 : D.2.2.2.2.1 j + yQ (D.2.2.2.2.2 j) (D.2.2.2.1 j * q) d + (yQ (D.2.2.2.2.2 j) (D.2.2.2.1 j * q) (d + 1) - yQ (D.2.2.2.2.2 j) (D.2.2.2.1 j * q) d) = D.2.2.2.2.1 j + yQ (D.2.2.2.2.2 j) (D.2.2.2.1 j * q) (d + 1) := y_chg _ _ _
      simp (disch := omega) only [f_X8_grows, d_at2, d_at3, d_at4, xb1_s, y_in, xk_t, y_cl, q1, q6, b2, lN_i, nI_add, b3, a3', a4', a5', y2, y_un, y1, e9]
    have hs1 : RD n (yDd D q d (j + 1)) (vp_updL (vp_updL s (122 + 5 * j + 4) (yR (D.2.2.2.2.2 j) (D.2.2.2.1 j * q) (d + 1))) (122 + 5 * j + 3) (D.2.2.2.2.1 j + yQ (D.2.2.2.2.2 j) (D.2.2.2.1 j * q) (d + 1))) := by
      refine ⟨hn, h.2.1, by rw [y_un (by omega), y_un (by omega)]; exact h.2.2.1, fun k hk => ?_⟩
      by_cases e : k = j
      · subst e
        simp (disch := omega) only [y_un, y_us]
        refine ⟨a1, a2, a3, ?_, ?_⟩
        · show _ = D.2.2.2.2.1 k + (if k < k + 1 then _ else _)
          rw [if_pos (by omega)]
        · show _ = (if k < k + 1 then _ else _)
          rw [if_pos (by omega)]
      · simp (disch := omega) only [y_un]
        obtain ⟨c1, c2, c3, c4, c5⟩ := h.2.2.2 k hk
        refine ⟨c1, c2, c3, ?_, ?_⟩
        · rw [c4]
          show D.2.2.2.2.1 k + (if k < j then _ else _) = D.2.2.2.2.1 k + (if k < j + 1 then _ else _)
          by_cases l : k < j
          · rw [if_pos l, if_pos (by omega)]
          · rw [if_neg l, if_neg (by omega)]
        · rw [c5]
          show (if k < j then _ else _) = (if k < j + 1 then _ else _)
          by_cases l : k < j
          · rw [if_pos l, if_pos (by omega)]
          · rw [if_neg l, if_neg (by omega)]
    have ht : yTd D q n d (j + 1) = yTd D q n d j + (yQ (D.2.2.2.2.2 j) (D.2.2.2.1 j * q) (d + 1) - yQ (D.2.2.2.2.2 j) (D.2.2.2.1 j * q) d) := by
      unfold yTd
      rw [ysum_chg (j := j) (by omega) (f := fun k => if k < j then yQ (D.2.2.2.2.2 k) (D.2.2.2.1 k * q) (d + 1) else yQ (D.2.2.2.2.2 k) (D.2.2.2.1 k * q) d) (fun k hk hne => by
        show (if k < j then _ else _) = (if k < j + 1 then _ else _)
        by_cases l : k < j
        · rw [if_pos l, if_pos (by omega)]
        · rw [if_neg l, if_neg (by omega)])]
      show _ + ((if j < j + 1 then _ else _) - (if j < j then _ else _)) = _
      rw [if_pos (by omega), if_neg hjj]
    obtain ⟨s', g1, g2, g3, g4⟩ := ih (j + 1) m _ (by omega) (by omega) hs1 ⟨b1, by rw [y_un (by omega), y_un (by omega)]; exact b2, by rw [y_un (by omega), y_un (by omega)]; exact b3⟩
    refine ⟨s', ?_, g2, g3, fun k hk => ?_⟩
    · rw [← g1, ht]
      simp (disch := omega) only [f_X8_passing_45, d_debts h, xb1_s, y_nge, if_false, hg, xb2_s, nI_1]
    · rw [g4 k hk, y_un (by omega), y_un (by omega)]
theorem g_days {n : Nat} {D : sDeb} {q : Int64} {gn N : Nat} (hN : N ≤ 999) (hok : ∀ k, k < n → yOk (D.2.2.2.2.2 k) (D.2.2.2.1 k * q)) {fu : Nat} (hfu : 40 < fu) : ∀ l d m s, d + l = N → l < m → RD n (yDd D q d 0) s → yA1 gn q s → ∃ s', f_X8_passing_38 fu m (nI N) (nI d) s (yTd D q n d 0) = some (0, vp_updL s' 0 (s 0 + lN N), yTd D q n N 0) ∧ RD n (yDd D q N 0) s' ∧ ∀ k, ¬ (122 ≤ k ∧ k < 272) → s' k = s k := by
  intro l
  induction l with
  | zero =>
    intro d m s hj hm h ha
    obtain ⟨m, rfl⟩ : ∃ m', m = m' + 1 := ⟨m - 1, by omega⟩
    have hj' : d = N := by omega
    subst hj'
    refine ⟨s, ?_, h, fun _ _ => rfl⟩
    simp (disch := omega) only [f_X8_passing_38, y_self, if_true, q0, y_in, xk_t, y_cl, nI_l]
  | succ l ih =>
    intro d m s hj hm h ha
    obtain ⟨m, rfl⟩ : ∃ m', m = m' + 1 := ⟨m - 1, by omega⟩
    have hn := h.1
    obtain ⟨s1, g1, g2, g3, g4⟩ := g_day hok (fu := fu) (kx := fun n15 n16 uF1_17 uF11_18 => f_X8_passing_38 fu m n15 (n16 + 1) uF1_17 uF11_18) (nI N) (nI d) (d := d) (by omega) n 0 fu s (by omega) (by omega) h ha
    have h2 : RD n (yDd D q (d + 1) 0) s1 := by
      refine g2.cong rfl (fun k hk => ⟨rfl, rfl, rfl, ?_, ?_⟩)
      · show D.2.2.2.2.1 k + (if k < 0 then _ else _) = D.2.2.2.2.1 k + (if k < n then _ else _)
        rw [if_neg (by omega), if_pos hk]
      · show (if k < 0 then _ else _) = (if k < n then _ else _)
        rw [if_neg (by omega), if_pos hk]
    have ht : yTd D q n d n = yTd D q n (d + 1) 0 := by
      unfold yTd
      refine ysum_cong (fun k hk => ?_)
      rw [if_pos hk, if_neg (by omega)]
    obtain ⟨s', k1, k2, k3⟩ := ih (d + 1) m s1 (by omega) (by omega) h2 g3
    refine ⟨s', ?_, k2, fun k hk => by rw [k3 k hk, g4 k hk]⟩
    have hx0 : nI 0 = 0 := rfl
    rw [hx0] at g1
    rw [← g4 0 (by omega), ← k1, ← ht, ← nI_1]
    simp (disch := omega) only [f_X8_passing_38, y_nge, if_false]
    exact g1
theorem g_class {n : Nat} {D : sDeb} (hn : n ≤ 30) {rt : Int32} {N : Nat} (hN : N ≤ 999) (hok : ∀ k, k < n → yOk (D.2.2.2.2.2 k) (D.2.2.2.1 k * rt.toInt64)) {fu : Nat} : ∀ l j m E, j + l = n → l < m → E.1 = nI n → (∀ k, k < n → E.2.1 k = D.2.1 k ∧ E.2.2.1 k = D.2.2.1 k ∧ E.2.2.2.1 k = D.2.2.2.1 k ∧ E.2.2.2.2.1 k = (if k < j then D.2.2.2.2.1 k + yQ (D.2.2.2.2.2 k) (D.2.2.2.1 k * rt.toInt64) N else D.2.2.2.2.1 k) ∧ E.2.2.2.2.2 k = (if k < j then yR (D.2.2.2.2.2 k) (D.2.2.2.1 k * rt.toInt64) N else D.2.2.2.2.2 k)) → ∃ E', f_X2_addInterest_5 fu m (nI N) rt (ysum (fun k => yQ (D.2.2.2.2.2 k) (D.2.2.2.1 k * rt.toInt64) N) j) (nI j) E = some (ysum (fun k => yQ (D.2.2.2.2.2 k) (D.2.2.2.1 k * rt.toInt64) N) n, E') ∧ E'.1 = nI n ∧ ∀ k, k < n → E'.2.1 k = D.2.1 k ∧ E'.2.2.1 k = D.2.2.1 k ∧ E'.2.2.2.1 k = D.2.2.2.1 k ∧ E'.2.2.2.2.1 k = D.2.2.2.2.1 k + yQ (D.2.2.2.2.2 k) (D.2.2.2.1 k * rt.toInt64) N ∧ E'.2.2.2.2.2 k = yR (D.2.2.2.2.2 k) (D.2.2.2.1 k * rt.toInt64) N := by
  intro l
  induction l with
  | zero =>
    intro j m E hj hm h1 hE
    obtain ⟨m, rfl⟩ : ∃ m', m = m' + 1 := ⟨m - 1, by omega⟩
    have hj' : j = n := by omega
    subst hj'
    refine ⟨E, ?_, h1, fun k hk => ?_⟩
    · simp (disch := omega) only [f_X2_addInterest_5, h1, y_self, if_true]
    · have := hE k hk
      rw [if_pos hk, if_pos hk] at this
      exact this
  | succ l ih =>
    intro j m E hj hm h1 hE
    obtain ⟨m, rfl⟩ : ∃ m', m = m' + 1 := ⟨m - 1, by omega⟩
    obtain ⟨c1, c2, c3, c4, c5⟩ := hE j (by omega)
    rw [if_neg (by omega)] at c4 c5
    obtain ⟨y1, y2⟩ := y_days (hok j (by omega)) hN
    obtain ⟨E', g1, g2, g3⟩ := ih (j + 1) m (nI n, E.2.1, E.2.2.1, E.2.2.2.1, vp_updL E.2.2.2.2.1 j (D.2.2.2.2.1 j + yQ (D.2.2.2.2.2 j) (D.2.2.2.1 j * rt.toInt64) N), vp_updL E.2.2.2.2.2 j (yR (D.2.2.2.2.2 j) (D.2.2.2.1 j * rt.toInt64) N)) (by omega) (by omega) rfl (fun k hk => by
      obtain ⟨d1, d2, d3, d4, d5⟩ := hE k hk
      refine ⟨d1, d2, d3, ?_, ?_⟩
      · show vp_updL E.2.2.2.2.1 j _ k = _
        by_cases e : k = j
        · subst e
          rw [y_us, if_pos (by omega)]
        · rw [y_un e, d4]
          by_cases l : k < j
          · rw [if_pos l, if_pos (by omega)]
          · rw [if_neg l, if_neg (by omega)]
      · show vp_updL E.2.2.2.2.2 j _ k = _
        by_cases e : k = j
        · subst e
          rw [y_us, if_pos (by omega)]
        · rw [y_un e, d5]
          by_cases l : k < j
          · rw [if_pos l, if_pos (by omega)]
          · rw [if_neg l, if_neg (by omega)])
    refine ⟨E', ?_, g2, g3⟩
    rw [← g1]
    simp (disch := omega) only [f_X2_addInterest_5, h1, y_nge, if_false, y_in, xk_t, y_cl, c3, c4, c5, nI_l, y1, y2, nI_1, ysum]
theorem d_pass {n pn : Nat} {D : sDeb} {s : xF64} (h : RD n D s) (v1 : VD1 n D pn) {K : Int} (hK : K ≤ 20000) (v2 : VD2 K n D) (hpr : ∀ k, k < n → (D.2.2.2.1 k).toInt ≤ 3584100000000) {rt : Int32} (hr0 : 0 ≤ rt.toInt) (hr : rt.toInt ≤ 2000) {gn N : Nat} (hA : yA1 gn rt.toInt64 s) (hN : N ≤ 999) {fu : Nat} (hfu : 1200 < fu) : ∃ T D' s', f_X2_addInterest fu (nI N) rt D = some (T, D') ∧ f_X8_passing_38 fu fu (nI N) 0 s 0 = some (0, vp_updL s' 0 (s 0 + lN N), T) ∧ RD n D' s' ∧ VD1 n D' pn ∧ VD2 (K + 1) n D' ∧ (∀ k, k < n → D'.2.1 k = D.2.1 k ∧ D'.2.2.2.1 k = D.2.2.2.1 k) ∧ ∀ k, ¬ (122 ≤ k ∧ k < 272) → s' k = s k := by
  have hn := h.1
  have hAm : ∀ k, k < n → (D.2.2.2.1 k * rt.toInt64).toInt = (D.2.2.2.1 k).toInt * rt.toInt ∧ 0 ≤ (D.2.2.2.1 k).toInt * rt.toInt ∧ (D.2.2.2.1 k).toInt * rt.toInt ≤ 3584100000000 * 2000 := fun k hk => by
    have b := v2 k hk
    have g1 : 0 ≤ (D.2.2.2.1 k).toInt * rt.toInt := Int.mul_nonneg b.1 hr0
    have g2 : (D.2.2.2.1 k).toInt * rt.toInt ≤ 3584100000000 * 2000 := Int.mul_le_mul (hpr k hk) hr hr0 (by omega)
    refine ⟨?_, g1, g2⟩
    rw [y_mulL (by rw [y_w]; omega) (by rw [y_w]; omega), y_w]
  have hok : ∀ k, k < n → yOk (D.2.2.2.2.2 k) (D.2.2.2.1 k * rt.toInt64) := fun k hk => by
    have b := v2 k hk
    obtain ⟨e, g1, g2⟩ := hAm k hk
    refine ⟨by omega, by omega, ?_, ?_⟩
    · rw [e]; exact g1
    · rw [e]; omega
  have h0 : RD n (yDd D rt.toInt64 0 0) s := by
    refine h.cong rfl (fun k hk => ⟨rfl, rfl, rfl, ?_, ?_⟩)
    · show D.2.2.2.2.1 k + (if k < 0 then _ else _) = _
      rw [if_neg (by omega), (y_d0 (hok k hk)).1, Int64.add_zero]
    · show (if k < 0 then _ else _) = _
      rw [if_neg (by omega), (y_d0 (hok k hk)).2]
  have ht0 : yTd D rt.toInt64 n 0 0 = 0 := by
    unfold yTd
    rw [ysum_cong (g := fun _ => 0) (fun k hk => by rw [if_neg (by omega), (y_d0 (hok k hk)).1])]
    exact ysum_zero n
  obtain ⟨s', g1, g2, g3⟩ := g_days hN hok (fu := fu) (by omega) N 0 fu s (by omega) (by omega) h0 hA
  obtain ⟨E, k1, k2, k3⟩ := g_class hn hN hok (fu := fu) n 0 fu D (by omega) (by omega) h.2.1 (fun k hk => ⟨rfl, rfl, rfl, (if_neg (by omega)).symm, (if_neg (by omega)).symm⟩)
  have hT : yTd D rt.toInt64 n N 0 = ysum (fun k => yQ (D.2.2.2.2.2 k) (D.2.2.2.1 k * rt.toInt64) N) n := by
    unfold yTd
    exact ysum_cong (fun k hk => if_neg (by omega))
  rw [ht0, hT] at g1
  refine ⟨_, E, s', k1, g1, ?_, ⟨fun k hk => ?_, fun i j hij hj => ?_⟩, fun k hk => ?_, fun k hk => ⟨(k3 k hk).1, (k3 k hk).2.2.1⟩, g3⟩
  · refine g2.cong (by rw [k2]; exact h.2.1.symm) (fun k hk => ?_)
    obtain ⟨m1, m2, m3, m4, m5⟩ := k3 k hk
    refine ⟨m1, m2, m3, ?_, ?_⟩
    · rw [m4]
      show _ = D.2.2.2.2.1 k + (if k < 0 then _ else _)
      rw [if_neg (by omega)]
    · rw [m5]
      show _ = (if k < 0 then _ else _)
      rw [if_neg (by omega)]
  · obtain ⟨m1, m2, m3, m4, m5⟩ := k3 k hk
    rw [m1, m2]
    exact v1.1 k hk
  · obtain ⟨m1, m2, m3, m4, m5⟩ := k3 i (by omega)
    obtain ⟨l1, l2, l3, l4, l5⟩ := k3 j hj
    rw [m1, m2, l1, l2]
    exact v1.2 i j hij hj
  · obtain ⟨m1, m2, m3, m4, m5⟩ := k3 k hk
    have b := v2 k hk
    have ok := hok k hk
    have gb := y_gb9 ok hN
    have q := y_Qt ok (d := N) (by omega)
    have r := y_Rt ok (d := N) (by omega)
    have e : (D.2.2.2.2.1 k + yQ (D.2.2.2.2.2 k) (D.2.2.2.1 k * rt.toInt64) N).toInt = (D.2.2.2.2.1 k).toInt + yG (D.2.2.2.2.2 k) (D.2.2.2.1 k * rt.toInt64) N / 3600000 := by
      rw [y_addL (by omega) (by omega), q]
    rw [m3, m4, m5, e, r]
    omega
-- when a debt will have grown
theorem g_none {fu : Nat} {s : xF64} {u A ow : Int64} (ok : yOk u A) (hw0 : 0 ≤ ow.toInt) (hw : ow.toInt ≤ 4000000000000000000) {x2 : Int32} (hno : ∀ d : Nat, d ≤ 3650 → ow.toInt + yG u A d / 3600000 < x2.toInt) (z : Int32) : ∀ l d m, d + l = 3651 → l < m → f_X8_growsTo_86 fu s m x2 (yR u A d) (ow + yQ u A d) A (nI d) z = some (0, 3) := by
  intro l
  induction l with
  | zero =>
    intro d m hd hm
    obtain ⟨m, rfl⟩ : ∃ m', m = m' + 1 := ⟨m - 1, by omega⟩
    have hd' : d = 3651 := by omega
    subst hd'
    have c : ((3650 : Int32) < nI 3651) = True := eq_true (nI_lt (a := 3650) (b := 3651) (by omega) (by omega))
    simp only [f_X8_growsTo_86, c, if_true, f_X8_fails, xb2_s]
  | succ l ih =>
    intro d m hd hm
    obtain ⟨m, rfl⟩ : ∃ m', m = m' + 1 := ⟨m - 1, by omega⟩
    have gb := y_gb ok (d := d) (by omega)
    have q := y_Qt ok (d := d) (by omega)
    have c : ((3650 : Int32) < nI d) = False := eq_false (nI_nlt (a := 3650) (b := d) (by omega) (by omega))
    have c2 : (ow + yQ u A d < x2.toInt64) = True := eq_true (by
      have := hno d (by omega)
      rw [y_lt64, y_addL (by omega) (by omega), y_w, q]
      omega)
    obtain ⟨y1, y2⟩ := y_day ok (d := d) (by omega)
    rw [← ih (d + 1) m (by omega) (by omega)]
    simp only [f_X8_growsTo_86, c, c2, if_true, if_false, y2, y1, y_chg, nI_1]
theorem g_hit {fu : Nat} {s : xF64} {u A ow : Int64} (ok : yOk u A) (hw0 : 0 ≤ ow.toInt) (hw : ow.toInt ≤ 4000000000000000000) {x2 : Int32} {V : Nat} (hV : V ≤ 3650) (hno : ∀ d : Nat, d < V → ow.toInt + yG u A d / 3600000 < x2.toInt) (hyes : x2.toInt ≤ ow.toInt + yG u A V / 3600000) (z : Int32) : ∀ l d m, d + l = V → l < m → f_X8_growsTo_86 fu s m x2 (yR u A d) (ow + yQ u A d) A (nI d) z = some (nI V, z) := by
  intro l
  induction l with
  | zero =>
    intro d m hd hm
    obtain ⟨m, rfl⟩ : ∃ m', m = m' + 1 := ⟨m - 1, by omega⟩
    have hd' : d = V := by omega
    subst hd'
    have gb := y_gb ok (d := d) (by omega)
    have q := y_Qt ok (d := d) (by omega)
    have c : ((3650 : Int32) < nI d) = False := eq_false (nI_nlt (a := 3650) (b := d) (by omega) (by omega))
    have c2 : (ow + yQ u A d < x2.toInt64) = False := eq_false (by
      rw [y_lt64, y_addL (by omega) (by omega), y_w, q]
      omega)
    simp only [f_X8_growsTo_86, c, c2, if_false]
  | succ l ih =>
    intro d m hd hm
    obtain ⟨m, rfl⟩ : ∃ m', m = m' + 1 := ⟨m - 1, by omega⟩
    have gb := y_gb ok (d := d) (by omega)
    have q := y_Qt ok (d := d) (by omega)
    have c : ((3650 : Int32) < nI d) = False := eq_false (nI_nlt (a := 3650) (b := d) (by omega) (by omega))
    have c2 : (ow + yQ u A d < x2.toInt64) = True := eq_true (by
      have := hno d (by omega)
      rw [y_lt64, y_addL (by omega) (by omega), y_w, q]
      omega)
    obtain ⟨y1, y2⟩ := y_day ok (d := d) (by omega)
    rw [← ih (d + 1) m (by omega) (by omega)]
    simp only [f_X8_growsTo_86, c, c2, if_true, if_false, y2, y1, y_chg, nI_1]
theorem y_ceil {z A d : Int} (hA : 0 < A) : (z + A - 1) / A ≤ d ↔ z ≤ d * A := by
  have h1 : (z + A - 1) / A < d + 1 ↔ z + A - 1 < (d + 1) * A := Int.ediv_lt_iff_lt_mul hA
  have h2 : (d + 1) * A = d * A + A := by rw [Int.add_mul, Int.one_mul]
  rw [h2] at h1
  omega
theorem d_grows {n : Nat} {D : sDeb} {s : xF64} (h : RD n D s) {K : Int} (hK : K ≤ 20000) (v2 : VD2 K n D) {i : Nat} (hi : i < n) (hpr : (D.2.2.2.1 i).toInt ≤ 3584100000000) {rt : Int32} (hr0 : 0 ≤ rt.toInt) (hr : rt.toInt ≤ 2000) {x2 : Int32} (hx : 1 ≤ x2.toInt) (hx2 : x2.toInt ≤ 1000000000) {fu : Nat} (hfu : 4000 < fu) (z : Int32) : ∃ v, f_X2_daysUntil (nI i) x2.toInt64 rt D = some v ∧ ((v ≤ 3650 ∧ f_X8_growsTo_86 fu s fu x2 (D.2.2.2.2.2 i) (D.2.2.2.1 i + D.2.2.2.2.1 i) (D.2.2.2.1 i * rt.toInt64) 0 z = some (v.toInt32, z)) ∨ (¬ v ≤ 3650 ∧ f_X8_growsTo_86 fu s fu x2 (D.2.2.2.2.2 i) (D.2.2.2.1 i + D.2.2.2.2.1 i) (D.2.2.2.1 i * rt.toInt64) 0 z = some (0, 3))) := by
  have hn := h.1
  have b := v2 i hi
  have g1 : 0 ≤ (D.2.2.2.1 i).toInt * rt.toInt := Int.mul_nonneg b.1 hr0
  have g2 : (D.2.2.2.1 i).toInt * rt.toInt ≤ 3584100000000 * 2000 := Int.mul_le_mul hpr hr hr0 (by omega)
  have eA : (D.2.2.2.1 i * rt.toInt64).toInt = (D.2.2.2.1 i).toInt * rt.toInt := by
    rw [y_mulL (by rw [y_w]; omega) (by rw [y_w]; omega), y_w]
  have eo : (D.2.2.2.1 i + D.2.2.2.2.1 i).toInt = (D.2.2.2.1 i).toInt + (D.2.2.2.2.1 i).toInt := y_addL (by omega) (by omega)
  have x0 : xin (nI i) 30 = true := y_in (by omega) (by omega)
  have x1 : (nI i).toNatClampNeg = i := y_cl (by omega)
  have hda := (d_amt h hi).1
  have ok : yOk (D.2.2.2.2.2 i) (D.2.2.2.1 i * rt.toInt64) := ⟨by omega, by omega, by omega, by omega⟩
  obtain ⟨z0, z1⟩ := y_d0 ok
  generalize hA : D.2.2.2.1 i * rt.toInt64 = A at *
  generalize hO : D.2.2.2.1 i + D.2.2.2.2.1 i = O at *
  generalize hU : D.2.2.2.2.2 i = u at *
  have hO0 : O + 0 = O := Int64.add_zero O
  have ems : (x2.toInt64 - O).toInt = x2.toInt - O.toInt := by rw [y_subL (by rw [y_w]; omega) (by rw [y_w]; omega), y_w]
  by_cases cm : 0 < x2.toInt64 - O
  · have cm' : O.toInt < x2.toInt := by
      rw [y_lt64, y_z, ems] at cm
      omega
    by_cases ca : 0 < A
    · have ca' : 0 < A.toInt := by
        rw [y_lt64, y_z] at ca
        exact ca
      have en : xnzl A = true := y_nzl (fun q => by rw [q] at ca'; exact absurd ca' (by decide))
      have em : ((x2.toInt64 - O) * 3600000).toInt = (x2.toInt - O.toInt) * 3600000 := by
        rw [y_mulL (by rw [ems, y_U]; omega) (by rw [ems, y_U]; omega), ems, y_U]
      have o1 : (1 : Int64).toInt = 1 := rfl
      have e1 : ((x2.toInt64 - O) * 3600000 - u).toInt = (x2.toInt - O.toInt) * 3600000 - u.toInt := by
        rw [y_subL (by rw [em]; omega) (by rw [em]; omega), em]
      have e2 : ((x2.toInt64 - O) * 3600000 - u + A).toInt = (x2.toInt - O.toInt) * 3600000 - u.toInt + A.toInt := by
        rw [y_addL (by rw [e1]; omega) (by rw [e1]; omega), e1]
      have e3 : ((x2.toInt64 - O) * 3600000 - u + A - 1).toInt = (x2.toInt - O.toInt) * 3600000 - u.toInt + A.toInt - 1 := by
        rw [y_subL (by rw [e2, o1]; omega) (by rw [e2, o1]; omega), e2, o1]
      have e4 : (((x2.toInt64 - O) * 3600000 - u + A - 1) / A).toInt = ((x2.toInt - O.toInt) * 3600000 - u.toInt + A.toInt - 1) / A.toInt := by
        rw [y_divL (by rw [e3]; omega) ca', e3]
      generalize hv : ((x2.toInt64 - O) * 3600000 - u + A - 1) / A = v at e4
      have hit : ∀ d : Nat, v.toInt ≤ (d : Int) ↔ x2.toInt ≤ O.toInt + yG u A d / 3600000 := fun d => by
        rw [e4, y_ceil ca']
        have : yG u A d = u.toInt + A.toInt * (d : Int) := rfl
        rw [this, Int.mul_comm (d : Int)]
        generalize A.toInt * (d : Int) = B
        omega
      have hv0 : 0 ≤ v.toInt := by
        rw [e4]
        exact Int.ediv_nonneg (by omega) (by omega)
      refine ⟨v, ?_, ?_⟩
      · simp only [f_X2_daysUntil, hda, xb1_s, cm, if_true, x0, xk_t, x1, hA, ca, en, hU, hv]
      · have e36 : (3650 : Int64).toInt = 3650 := rfl
        by_cases c : v.toInt ≤ 3650
        · refine .inl ⟨by rw [y_le64, e36]; exact c, ?_⟩
          have := g_hit (fu := fu) (s := s) ok (by omega) (by omega) (x2 := x2) (V := v.toInt.toNat) (by omega) (fun d hd => by
            have := (hit d).not
            omega) ((hit _).mp (by omega)) z v.toInt.toNat 0 fu (by omega) (by omega)
          rw [z0, z1, hO0] at this
          have ev : nI v.toInt.toNat = v.toInt32 := by
            rw [y_eq32, nI_toInt (by omega)]
            have : v = lN v.toInt.toNat := by
              rw [y_eq64, lN_toInt (by omega)]
              omega
            rw [this, lN_i, nI_toInt (by omega), lN_toInt (by omega)]
            omega
          rw [← ev]
          exact this
        · refine .inr ⟨by rw [y_le64, e36]; exact c, ?_⟩
          have := g_none (fu := fu) (s := s) ok (by omega) (by omega) (x2 := x2) (fun d hd => by
            have := (hit d).not
            omega) z 3651 0 fu (by omega) (by omega)
          rw [z0, z1, hO0] at this
          exact this
    · have ca' : A.toInt = 0 := by
        rw [y_lt64, y_z] at ca
        have := ok.2.2.1
        omega
      refine ⟨3651, ?_, .inr ⟨by decide, ?_⟩⟩
      · simp only [f_X2_daysUntil, hda, xb1_s, cm, if_true, x0, xk_t, x1, hA, ca, if_false]
      · have := g_none (fu := fu) (s := s) ok (by omega) (by omega) (x2 := x2) (fun d hd => by
          have e : yG u A d = u.toInt + A.toInt * (d : Int) := rfl
          rw [e, ca', Int.zero_mul]
          omega) z 3651 0 fu (by omega) (by omega)
        rw [z0, z1, hO0] at this
        exact this
  · have cm' : x2.toInt ≤ O.toInt := by
      rw [y_lt64, y_z, ems] at cm
      omega
    refine ⟨0, ?_, .inl ⟨by decide, ?_⟩⟩
    · simp only [f_X2_daysUntil, hda, xb1_s, cm, if_false]
    · have gb := y_gb ok (d := 0) (by omega)
      have := g_hit (fu := fu) (s := s) ok (by omega) (by omega) (x2 := x2) (V := 0) (by omega) (fun d hd => absurd hd (Nat.not_lt_zero _)) (by omega) z 0 0 fu (by omega) (by omega)
      rw [z0, z1, hO0] at this
      exact this
