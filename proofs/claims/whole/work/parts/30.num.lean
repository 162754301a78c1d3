-- numbers, for the reckoning that is free of the machine
theorem y_lt64 (a b : Int64) : a < b ↔ a.toInt < b.toInt := Int64.lt_iff_toInt_lt
theorem y_le64 (a b : Int64) : a ≤ b ↔ a.toInt ≤ b.toInt := Int64.le_iff_toInt_le
theorem y_eq64 (a b : Int64) : a = b ↔ a.toInt = b.toInt := Int64.toInt_inj.symm
theorem y_lt32 (a b : Int32) : a < b ↔ a.toInt < b.toInt := Int32.lt_iff_toInt_lt
theorem y_le32 (a b : Int32) : a ≤ b ↔ a.toInt ≤ b.toInt := Int32.le_iff_toInt_le
theorem y_eq32 (a b : Int32) : a = b ↔ a.toInt = b.toInt := Int32.toInt_inj.symm
theorem y_w (a : Int32) : a.toInt64.toInt = a.toInt := Int32.toInt_toInt64 a
theorem y_weq (a b : Int32) : a.toInt64 = b.toInt64 ↔ a = b := by rw [y_eq64, y_eq32, y_w, y_w]
theorem y_wn (a : Int32) : a.toInt64.toInt32 = a := by simp
theorem y_rng (x : Int32) : -2147483648 ≤ x.toInt ∧ x.toInt < 2147483648 := by
  have h1 := Int32.le_toInt x
  have h2 := Int32.toInt_lt x
  exact ⟨by simpa using h1, by simpa using h2⟩
theorem y_rngL (x : Int64) : -9223372036854775808 ≤ x.toInt ∧ x.toInt < 9223372036854775808 := by
  have h1 := Int64.le_toInt x
  have h2 := Int64.toInt_lt x
  exact ⟨by simpa using h1, by simpa using h2⟩
theorem y_bm {z : Int} (h1 : -2147483648 ≤ z) (h2 : z < 2147483648) : z.bmod (2 ^ 32) = z := by
  apply Int.bmod_eq_of_le <;> omega
theorem y_bmL {z : Int} (h1 : -9223372036854775808 ≤ z) (h2 : z < 9223372036854775808) : z.bmod (2 ^ 64) = z := by
  apply Int.bmod_eq_of_le <;> omega
theorem y_add {x y : Int32} (h1 : -2147483648 ≤ x.toInt + y.toInt) (h2 : x.toInt + y.toInt < 2147483648) : (x + y).toInt = x.toInt + y.toInt := by
  rw [Int32.toInt_add]; exact y_bm h1 h2
theorem y_sub {x y : Int32} (h1 : -2147483648 ≤ x.toInt - y.toInt) (h2 : x.toInt - y.toInt < 2147483648) : (x - y).toInt = x.toInt - y.toInt := by
  rw [Int32.toInt_sub]; exact y_bm h1 h2
theorem y_addL {x y : Int64} (h1 : -9223372036854775808 ≤ x.toInt + y.toInt) (h2 : x.toInt + y.toInt < 9223372036854775808) : (x + y).toInt = x.toInt + y.toInt := by
  rw [Int64.toInt_add]; exact y_bmL h1 h2
theorem y_subL {x y : Int64} (h1 : -9223372036854775808 ≤ x.toInt - y.toInt) (h2 : x.toInt - y.toInt < 9223372036854775808) : (x - y).toInt = x.toInt - y.toInt := by
  rw [Int64.toInt_sub]; exact y_bmL h1 h2
theorem y_mulL {x y : Int64} (h1 : -9223372036854775808 ≤ x.toInt * y.toInt) (h2 : x.toInt * y.toInt < 9223372036854775808) : (x * y).toInt = x.toInt * y.toInt := by
  rw [Int64.toInt_mul]; exact y_bmL h1 h2
theorem y_divL {x y : Int64} (hx : 0 ≤ x.toInt) (hy : 0 < y.toInt) : (x / y).toInt = x.toInt / y.toInt := by
  have h1 := y_rngL x
  have h3 : x.toInt / y.toInt ≤ x.toInt := Int.ediv_le_self _ hx
  have h4 : 0 ≤ x.toInt / y.toInt := Int.ediv_nonneg hx (Int.le_of_lt hy)
  have h2 : (x / y).toInt = (x.toInt.tdiv y.toInt).bmod (2 ^ 64) := by
    first
      | exact Int64.toInt_div x y
      | simp [Int64.toInt_div]
  rw [h2, Int.tdiv_eq_ediv_of_nonneg hx]
  exact y_bmL (by omega) (by omega)
-- sub and add of ints, widened
theorem y_wsub {x y : Int32} (h1 : -2147483648 ≤ x.toInt - y.toInt) (h2 : x.toInt - y.toInt < 2147483648) : (x - y).toInt64 = x.toInt64 - y.toInt64 := by
  rw [y_eq64, y_w, y_sub h1 h2, y_subL (by rw [y_w, y_w]; omega) (by rw [y_w, y_w]; omega), y_w, y_w]
theorem y_wadd {x y : Int32} (h1 : -2147483648 ≤ x.toInt + y.toInt) (h2 : x.toInt + y.toInt < 2147483648) : (x + y).toInt64 = x.toInt64 + y.toInt64 := by
  rw [y_eq64, y_w, y_add h1 h2, y_addL (by rw [y_w, y_w]; omega) (by rw [y_w, y_w]; omega), y_w, y_w]
-- places
theorem y_in {i n : Nat} (h : i < n) (hn : n < 2 ^ 31) : xin (nI i) n = true := by
  have : (nI i).toInt = (i : Int) := nI_toInt (by omega)
  exact decide_eq_true ⟨by omega, by omega⟩
theorem y_xk {α : Type} {b : Bool} {x : Option α} (h : b = true) : xk b x = x := by rw [h]; rfl
theorem y_xb1 {α ρ : Type} {o : Option α} {k : α → Option ρ} {a : α} (h : o = some a) : xb1 o k = k a := by rw [h]; rfl
theorem y_cl {n : Nat} (h : n < 2 ^ 31) : (nI n).toNatClampNeg = n := nI_clamp h
theorem y_lit (n : Nat) : (OfNat.ofNat n : Int32) = nI n := rfl
theorem y_litL (n : Nat) : (OfNat.ofNat n : Int64) = lN n := rfl
theorem y_isb0 : xisb 0 = true := by decide
theorem y_isb1 : xisb 1 = true := by decide
theorem y_nzl {x : Int64} (h : x ≠ 0) : xnzl x = true := decide_eq_true h
theorem y_nz {x : Int32} (h : x ≠ 0) : xnz x = true := decide_eq_true h
-- sums
def ysum (f : Nat → Int64) : Nat → Int64
  | 0 => 0
  | n + 1 => ysum f n + f n
theorem ysum_s (f : Nat → Int64) (n : Nat) : ysum f (n + 1) = ysum f n + f n := rfl
theorem ysum_cong {f g : Nat → Int64} : ∀ {n : Nat}, (∀ k, k < n → f k = g k) → ysum f n = ysum g n
  | 0, _ => rfl
  | n + 1, h => by rw [ysum, ysum, ysum_cong (fun k hk => h k (Nat.lt_succ_of_lt hk)), h n (Nat.lt_succ_self n)]
def ysumI (f : Nat → Int32) : Nat → Int32
  | 0 => 0
  | n + 1 => ysumI f n + f n
theorem ysumI_cong {f g : Nat → Int32} : ∀ {n : Nat}, (∀ k, k < n → f k = g k) → ysumI f n = ysumI g n
  | 0, _ => rfl
  | n + 1, h => by rw [ysumI, ysumI, ysumI_cong (fun k hk => h k (Nat.lt_succ_of_lt hk)), h n (Nat.lt_succ_self n)]
/-- a loop with an accumulator is a sum -/
theorem ylp {α : Type} (F : Nat → α → Int32 → Option α) (S : Nat → α) (N : Nat) (hend : ∀ m acc, F (m + 1) acc (nI N) = some acc) (hstep : ∀ m i, i < N → F (m + 1) (S i) (nI i) = F m (S (i + 1)) (nI (i + 1))) {fu : Nat} (hfu : N < fu) : F fu (S 0) 0 = some (S N) := by
  have key : ∀ j i m, i + j = N → j < m → F m (S i) (nI i) = some (S N) := by
    intro j
    induction j with
    | zero =>
      intro i m hi hm
      have hi' : i = N := by omega
      subst hi'
      obtain ⟨m', rfl⟩ : ∃ m', m = m' + 1 := ⟨m - 1, by omega⟩
      exact hend m' _
    | succ j ih =>
      intro i m hi hm
      obtain ⟨m', rfl⟩ : ∃ m', m = m' + 1 := ⟨m - 1, by omega⟩
      rw [hstep m' i (by omega)]
      exact ih (i + 1) m' (by omega) (by omega)
  have h0 : (0 : Int32) = nI 0 := nI_0.symm
  rw [h0]
  exact key N 0 fu (by omega) (by omega)
-- bounds of sums
theorem ysum_rng {f : Nat → Int64} {c : Int} (hc : 0 ≤ c) : ∀ {n : Nat}, n * c < 9223372036854775808 → (∀ k, k < n → 0 ≤ (f k).toInt ∧ (f k).toInt ≤ c) → 0 ≤ (ysum f n).toInt ∧ (ysum f n).toInt ≤ n * c
  | 0, _, _ => by
    have : (ysum f 0).toInt = 0 := rfl
    omega
  | n + 1, hn, h => by
    have e : ((n + 1 : Nat) : Int) * c = n * c + c := by
      have : ((n + 1 : Nat) : Int) = (n : Int) + 1 := by omega
      rw [this, Int.add_mul, Int.one_mul]
    have ih := ysum_rng hc (n := n) (by omega) (fun k hk => h k (Nat.lt_succ_of_lt hk))
    have hk := h n (Nat.lt_succ_self n)
    rw [ysum_s, y_addL (by omega) (by omega)]
    omega
theorem ysum_ge {f : Nat → Int64} {c : Int} (hc : 0 ≤ c) : ∀ {n : Nat}, n * c < 9223372036854775808 → (∀ k, k < n → 0 ≤ (f k).toInt ∧ (f k).toInt ≤ c) → ∀ k, k < n → (f k).toInt ≤ (ysum f n).toInt
  | 0, _, _, k, hk => absurd hk (Nat.not_lt_zero k)
  | n + 1, hn, h, k, hk => by
    have e : ((n + 1 : Nat) : Int) * c = n * c + c := by
      have : ((n + 1 : Nat) : Int) = (n : Int) + 1 := by omega
      rw [this, Int.add_mul, Int.one_mul]
    have ih := ysum_ge hc (n := n) (by omega) (fun k hk => h k (Nat.lt_succ_of_lt hk))
    have ir := ysum_rng hc (n := n) (by omega) (fun k hk => h k (Nat.lt_succ_of_lt hk))
    have hk' := h n (Nat.lt_succ_self n)
    rw [ysum_s, y_addL (by omega) (by omega)]
    by_cases hkn : k = n
    · subst hkn; omega
    · have := ih k (by omega)
      omega
/-- small int sums, widened -/
theorem ysumI_w {f : Nat → Int32} {c : Int} (hc : 0 ≤ c) : ∀ {n : Nat}, n * c < 2147483648 → (∀ k, k < n → 0 ≤ (f k).toInt ∧ (f k).toInt ≤ c) → (ysumI f n).toInt64 = ysum (fun k => (f k).toInt64) n ∧ 0 ≤ (ysumI f n).toInt ∧ (ysumI f n).toInt ≤ n * c
  | 0, _, _ => by
    have : (ysumI f 0).toInt = 0 := rfl
    exact ⟨rfl, by omega, by omega⟩
  | n + 1, hn, h => by
    have e : ((n + 1 : Nat) : Int) * c = n * c + c := by
      have : ((n + 1 : Nat) : Int) = (n : Int) + 1 := by omega
      rw [this, Int.add_mul, Int.one_mul]
    have ih := ysumI_w hc (n := n) (by omega) (fun k hk => h k (Nat.lt_succ_of_lt hk))
    have hk := h n (Nat.lt_succ_self n)
    have e2 : ysumI f (n + 1) = ysumI f n + f n := rfl
    rw [e2, ysum_s, y_wadd (by omega) (by omega), ih.1, y_add (by omega) (by omega)]
    exact ⟨rfl, by omega, by omega⟩
-- stores
theorem y_us (s : Nat → Int64) (k : Nat) (x : Int64) : vp_updL s k x k = x := pk_uLs
theorem y_un {s : Nat → Int64} {k j : Nat} {x : Int64} (h : j ≠ k) : vp_updL s k x j = s j := pk_uLn h
theorem y_ue (s : Nat → Int64) (k j : Nat) (x : Int64) : vp_updL s k x j = if j = k then x else s j := rfl
theorem y_ueI (s : Nat → Int32) (k j : Nat) (x : Int32) : upd s k x j = if j = k then x else s j := rfl
-- literals
theorem q0 : (0 : Int32) = nI 0 := rfl
theorem q1 : (1 : Int32) = nI 1 := rfl
theorem q2 : (2 : Int32) = nI 2 := rfl
theorem q3 : (3 : Int32) = nI 3 := rfl
theorem q4 : (4 : Int32) = nI 4 := rfl
theorem q5 : (5 : Int32) = nI 5 := rfl
theorem q6 : (6 : Int32) = nI 6 := rfl
theorem q7 : (7 : Int32) = nI 7 := rfl
theorem q8 : (8 : Int32) = nI 8 := rfl
theorem q9 : (9 : Int32) = nI 9 := rfl
theorem q10 : (10 : Int32) = nI 10 := rfl
theorem q11 : (11 : Int32) = nI 11 := rfl
theorem q12 : (12 : Int32) = nI 12 := rfl
theorem q13 : (13 : Int32) = nI 13 := rfl
theorem q14 : (14 : Int32) = nI 14 := rfl
theorem q15 : (15 : Int32) = nI 15 := rfl
theorem q16 : (16 : Int32) = nI 16 := rfl
theorem q20 : (20 : Int32) = nI 20 := rfl
theorem q26 : (26 : Int32) = nI 26 := rfl
theorem q30 : (30 : Int32) = nI 30 := rfl
theorem q32 : (32 : Int32) = nI 32 := rfl
theorem q35 : (35 : Int32) = nI 35 := rfl
theorem q36 : (36 : Int32) = nI 36 := rfl
theorem q38 : (38 : Int32) = nI 38 := rfl
theorem q44 : (44 : Int32) = nI 44 := rfl
theorem q48 : (48 : Int32) = nI 48 := rfl
theorem q50 : (50 : Int32) = nI 50 := rfl
theorem q57 : (57 : Int32) = nI 57 := rfl
theorem q70 : (70 : Int32) = nI 70 := rfl
theorem q108 : (108 : Int32) = nI 108 := rfl
theorem q122 : (122 : Int32) = nI 122 := rfl
theorem q272 : (272 : Int32) = nI 272 := rfl
theorem q304 : (304 : Int32) = nI 304 := rfl
theorem q1520 : (1520 : Int32) = nI 1520 := rfl
theorem q1824 : (1824 : Int32) = nI 1824 := rfl
theorem q3650 : (3650 : Int32) = nI 3650 := rfl
theorem y_z : (0 : Int64).toInt = 0 := rfl
theorem y_max0 (d : Int64) : xmaxL 0 d = if d ≤ 0 then 0 else d := by
  unfold xmaxL
  by_cases h : d < 0
  · rw [if_pos h, if_pos]
    rw [y_lt64] at h
    rw [y_le64]
    omega
  · rw [if_neg h]
    by_cases h2 : d ≤ 0
    · rw [if_pos h2, y_eq64, y_z]
      rw [y_lt64, y_z] at h
      rw [y_le64, y_z] at h2
      omega
    · rw [if_neg h2]
theorem y_max0T (d : Int64) : 0 ≤ (xmaxL 0 d).toInt ∧ d.toInt ≤ (xmaxL 0 d).toInt ∧ ((xmaxL 0 d).toInt = 0 ∨ (xmaxL 0 d).toInt = d.toInt) := by
  rw [y_max0]
  by_cases h : d ≤ 0
  · rw [if_pos h, y_z]
    rw [y_le64, y_z] at h
    omega
  · rw [if_neg h]
    rw [y_le64, y_z] at h
    omega
theorem y_minT (x y : Int64) : (xminL x y).toInt ≤ x.toInt ∧ (xminL x y).toInt ≤ y.toInt ∧ ((xminL x y).toInt = x.toInt ∨ (xminL x y).toInt = y.toInt) := by
  unfold xminL
  by_cases h : y < x
  · rw [if_pos h]
    rw [y_lt64] at h
    omega
  · rw [if_neg h]
    rw [y_lt64] at h
    omega
theorem y_least (x y : Int64) : f_X8_least x y = some (xminL x y) := by
  unfold f_X8_least xminL
  by_cases h : y ≤ x
  · rw [if_pos h]
    by_cases h2 : y < x
    · rw [if_pos h2]
    · rw [if_neg h2]
      congr 1
      rw [y_le64] at h
      rw [y_lt64] at h2
      rw [y_eq64]
      omega
  · rw [if_neg h, if_neg]
    rw [y_le64] at h
    rw [y_lt64]
    omega
theorem y_minC (x y : Int64) : xminL x y = xminL y x := by
  rw [y_eq64]
  have := y_minT x y
  have := y_minT y x
  omega
