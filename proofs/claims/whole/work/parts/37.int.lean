-- interest
def yG (u A : Int64) (d : Nat) : Int := u.toInt + A.toInt * (d : Int)
def yQ (u A : Int64) (d : Nat) : Int64 := Int64.ofInt (yG u A d / 3600000)
def yR (u A : Int64) (d : Nat) : Int64 := Int64.ofInt (yG u A d % 3600000)
theorem y_ofI {z : Int} (h1 : -9223372036854775808 ≤ z) (h2 : z < 9223372036854775808) : (Int64.ofInt z).toInt = z := by
  first
    | exact Int64.toInt_ofInt_of_le (by omega) (by omega)
    | (rw [Int64.toInt_ofInt]; exact y_bmL h1 h2)
def yOk (u A : Int64) : Prop := 0 ≤ u.toInt ∧ u.toInt < 3600000 ∧ 0 ≤ A.toInt ∧ A.toInt ≤ 7168200000000000
theorem y_gb {u A : Int64} (h : yOk u A) {d : Nat} (hd : d ≤ 4000) : 0 ≤ yG u A d ∧ yG u A d ≤ 28672800003600000000 := by
  obtain ⟨h1, h2, h3, h4⟩ := h
  unfold yG
  have g1 : 0 ≤ A.toInt * (d : Int) := Int.mul_nonneg h3 (by omega)
  have g2 : A.toInt * (d : Int) ≤ 7168200000000000 * 4000 := Int.mul_le_mul h4 (by omega) (by omega) (by omega)
  omega
theorem y_gb9 {u A : Int64} (h : yOk u A) {d : Nat} (hd : d ≤ 999) : 0 ≤ yG u A d ∧ yG u A d ≤ 7161031800003600000 := by
  obtain ⟨h1, h2, h3, h4⟩ := h
  unfold yG
  have g1 : 0 ≤ A.toInt * (d : Int) := Int.mul_nonneg h3 (by omega)
  have g2 : A.toInt * (d : Int) ≤ 7168200000000000 * 999 := Int.mul_le_mul h4 (by omega) (by omega) (by omega)
  omega
theorem y_gs (u A : Int64) (d : Nat) : yG u A (d + 1) = yG u A d + A.toInt := by
  unfold yG
  have : ((d + 1 : Nat) : Int) = (d : Int) + 1 := by omega
  rw [this, Int.mul_add, Int.mul_one]
  omega
theorem y_Qt {u A : Int64} (h : yOk u A) {d : Nat} (hd : d ≤ 4000) : (yQ u A d).toInt = yG u A d / 3600000 := by
  have := y_gb h hd
  exact y_ofI (by omega) (by omega)
theorem y_Rt {u A : Int64} (h : yOk u A) {d : Nat} (hd : d ≤ 4000) : (yR u A d).toInt = yG u A d % 3600000 := by
  have := y_gb h hd
  exact y_ofI (by omega) (by omega)
theorem y_U : (3600000 : Int64).toInt = 3600000 := rfl
theorem y_rem {x : Int64} (hx : 0 ≤ x.toInt) : (x / 3600000).toInt = x.toInt / 3600000 ∧ (x - x / 3600000 * 3600000).toInt = x.toInt % 3600000 := by
  have hr := y_rngL x
  have e1 : (x / 3600000).toInt = x.toInt / 3600000 := by rw [y_divL hx (by rw [y_U]; omega), y_U]
  have e2 : (x / 3600000 * 3600000).toInt = x.toInt / 3600000 * 3600000 := by
    rw [y_mulL (by rw [e1, y_U]; omega) (by rw [e1, y_U]; omega), e1, y_U]
  refine ⟨e1, ?_⟩
  rw [y_subL (by rw [e2]; omega) (by rw [e2]; omega), e2]
  omega
theorem y_dm (g a : Int) : (g % 3600000 + a) / 3600000 = (g + a) / 3600000 - g / 3600000 ∧ (g % 3600000 + a) % 3600000 = (g + a) % 3600000 := by
  have e : g + a = (g % 3600000 + a) + 3600000 * (g / 3600000) := by
    rw [Int.add_right_comm, Int.emod_add_mul_ediv]
  have e1 : (g + a) / 3600000 = (g % 3600000 + a) / 3600000 + g / 3600000 := by
    rw [← Int.add_mul_ediv_left _ _ (by decide), ← e]
  have e2 : (g + a) % 3600000 = (g % 3600000 + a) % 3600000 := by
    rw [← Int.add_mul_emod_self_left (g % 3600000 + a) 3600000 (g / 3600000), ← e]
  exact ⟨by rw [e1, Int.add_sub_cancel], e2.symm⟩
theorem y_Qb {u A : Int64} (h : yOk u A) {d : Nat} (hd : d ≤ 4000) : 0 ≤ (yQ u A d).toInt ∧ (yQ u A d).toInt ≤ 8000000000000 := by
  rw [y_Qt h hd]
  have g := y_gb h hd
  clear h
  omega
theorem y_Rb {u A : Int64} (h : yOk u A) {d : Nat} (hd : d ≤ 4000) : 0 ≤ (yR u A d).toInt ∧ (yR u A d).toInt < 3600000 := by
  rw [y_Rt h hd]
  exact ⟨Int.emod_nonneg _ (by decide), Int.emod_lt_of_pos _ (by decide)⟩
/-- a day -/
theorem y_day {u A : Int64} (h : yOk u A) {d : Nat} (hd : d < 4000) : (yR u A d + A) / 3600000 = yQ u A (d + 1) - yQ u A d ∧ (yR u A d + A) - (yR u A d + A) / 3600000 * 3600000 = yR u A (d + 1) := by
  have rm := y_Rb h (d := d) (by omega)
  have bq := y_Qb h (d := d) (by omega)
  have bq1 := y_Qb h (d := d + 1) (by omega)
  have x : (yR u A d + A).toInt = (yR u A d).toInt + A.toInt := by
    obtain ⟨h1, h2, h3, h4⟩ := h
    exact y_addL (by omega) (by omega)
  have x0 : 0 ≤ (yR u A d + A).toInt := by
    obtain ⟨h1, h2, h3, h4⟩ := h
    omega
  have s : (yQ u A (d + 1) - yQ u A d).toInt = (yQ u A (d + 1)).toInt - (yQ u A d).toInt := y_subL (by omega) (by omega)
  have m := y_rem x0
  have r := y_Rt h (d := d) (by omega)
  have r1 := y_Rt h (d := d + 1) (by omega)
  have q := y_Qt h (d := d) (by omega)
  have q1 := y_Qt h (d := d + 1) (by omega)
  obtain ⟨k1, k2⟩ := y_dm (yG u A d) A.toInt
  refine ⟨?_, ?_⟩
  · rw [y_eq64, m.1, s, q, q1, x, r, y_gs, k1]
  · rw [y_eq64, m.2, r1, x, r, y_gs, k2]
/-- all days at once -/
theorem y_days {u A : Int64} (h : yOk u A) {d : Nat} (hd : d ≤ 999) : (u + A * lN d) / 3600000 = yQ u A d ∧ (u + A * lN d) - (u + A * lN d) / 3600000 * 3600000 = yR u A d := by
  have g := y_gb9 h (d := d) hd
  have r := y_Rt h (d := d) (by omega)
  have q := y_Qt h (d := d) (by omega)
  obtain ⟨h1, h2, h3, h4⟩ := h
  have e0 : (lN d).toInt = (d : Int) := lN_toInt (by omega)
  have g2 : 0 ≤ A.toInt * (d : Int) := Int.mul_nonneg h3 (by omega)
  have e1 : (A * lN d).toInt = A.toInt * (d : Int) := by
    have e9 : yG u A d = u.toInt + A.toInt * (d : Int) := rfl
    clear r q
    rw [y_mulL (by rw [e0]; omega) (by rw [e0]; omega), e0]
  have x : (u + A * lN d).toInt = yG u A d := by
    have e9 : yG u A d = u.toInt + A.toInt * (d : Int) := rfl
    clear r q
    rw [y_addL (by rw [e1]; omega) (by rw [e1]; omega), e1, e9]
  have m := y_rem (x := u + A * lN d) (by rw [x]; exact g.1)
  refine ⟨?_, ?_⟩
  · rw [y_eq64, m.1, q, x]
  · rw [y_eq64, m.2, r, x]
theorem y_d0 {u A : Int64} (h : yOk u A) : yQ u A 0 = 0 ∧ yR u A 0 = u := by
  have q := y_Qt h (d := 0) (by omega)
  have r := y_Rt h (d := 0) (by omega)
  obtain ⟨h1, h2, h3, h4⟩ := h
  have e : yG u A 0 = u.toInt := by
    unfold yG
    have : ((0 : Nat) : Int) = 0 := rfl
    rw [this, Int.mul_zero, Int.add_zero]
  refine ⟨?_, ?_⟩
  · rw [y_eq64, q, e, y_z]
    exact Int.ediv_eq_zero_of_lt h1 h2
  · rw [y_eq64, r, e]
    exact Int.emod_eq_of_lt h1 h2
theorem y_Qb9 {u A : Int64} (h : yOk u A) {d : Nat} (hd : d ≤ 999) : 0 ≤ (yQ u A d).toInt ∧ (yQ u A d).toInt ≤ 2000000000000 := by
  rw [y_Qt h (by omega)]
  have g := y_gb9 h hd
  clear h
  omega
theorem y_chg (x y z : Int64) : x + y + (z - y) = x + z := by
  rw [Int64.add_assoc]
  congr 1
  rw [Int64.add_comm, Int64.sub_add_cancel]
theorem ysum_chg {f g : Nat → Int64} {j : Nat} : ∀ {n : Nat}, j < n → (∀ k, k < n → k ≠ j → f k = g k) → ysum g n = ysum f n + (g j - f j)
  | 0, hj, _ => absurd hj (Nat.not_lt_zero _)
  | n + 1, hj, h => by
    by_cases e : j = n
    · subst e
      rw [ysum_s, ysum_s, ysum_cong (fun k hk => h k (by omega) (by omega)), y_chg]
    · rw [ysum_s, ysum_s, ysum_chg (n := n) (by omega) (fun k hk hne => h k (by omega) hne), h n (by omega) (fun q => e q.symm)]
      rw [Int64.add_assoc, Int64.add_comm (g j - f j), ← Int64.add_assoc]
theorem ysum_zero : ∀ n, ysum (fun _ => 0) n = 0
  | 0 => rfl
  | n + 1 => by rw [ysum_s, ysum_zero n]; rfl
theorem RD.cong {n : Nat} {D E : sDeb} {s : xF64} (h : RD n D s) (h1 : E.1 = D.1) (hk : ∀ k, k < n → E.2.1 k = D.2.1 k ∧ E.2.2.1 k = D.2.2.1 k ∧ E.2.2.2.1 k = D.2.2.2.1 k ∧ E.2.2.2.2.1 k = D.2.2.2.2.1 k ∧ E.2.2.2.2.2 k = D.2.2.2.2.2 k) : RD n E s := by
  refine ⟨h.1, by rw [h1]; exact h.2.1, h.2.2.1, fun k hk' => ?_⟩
  obtain ⟨a1, a2, a3, a4, a5⟩ := hk k hk'
  rw [a1, a2, a3, a4, a5]
  exact h.2.2.2 k hk'
