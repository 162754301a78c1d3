-- fees and shares
theorem y_min_l {x y : Int64} (h : x ≤ y) : xminL x y = x := if_neg (by rw [y_le64] at h; rw [y_lt64]; omega)
theorem y_min_r {x y : Int64} (h : ¬ x ≤ y) : xminL x y = y := if_pos (by rw [y_le64] at h; rw [y_lt64]; omega)
def yFp (x : Int64) (k : Nat) : Int64 := match k with
  | 0 => if xminL x 1000000 ≤ 0 then 0 else xminL x 1000000 - 0
  | 1 => if xminL x 5000000 ≤ 1000000 then 0 else xminL x 5000000 - 1000000
  | 2 => if xminL x 20000000 ≤ 5000000 then 0 else xminL x 20000000 - 5000000
  | _ => if xminL x x ≤ 20000000 then 0 else xminL x x - 20000000
def yF (x : Int64) (t : xF32) (k : Nat) : Int64 := yFp x k * (t k).toInt64 / 10000
theorem y_ite {α : Type} {c : Prop} [Decidable c] (a b : α) : (if c then some a else some b) = some (if c then a else b) := by
  by_cases h : c
  · rw [if_pos h, if_pos h]
  · rw [if_neg h, if_neg h]
theorem f_part (x : Int64) : ∀ k, k < 4 → f_X8_partOf x (nI k) = some (yFp x k) := by
  intro k hk
  have o10 : ((1 : Int32) = 0) = False := eq_false (by decide)
  have o20 : ((2 : Int32) = 0) = False := eq_false (by decide)
  have o21 : ((2 : Int32) = 1) = False := eq_false (by decide)
  have o30 : ((3 : Int32) = 0) = False := eq_false (by decide)
  have o31 : ((3 : Int32) = 1) = False := eq_false (by decide)
  have o32 : ((3 : Int32) = 2) = False := eq_false (by decide)
  obtain rfl | rfl | rfl | rfl : k = 0 ∨ k = 1 ∨ k = 2 ∨ k = 3 := by omega
  · show f_X8_partOf x 0 = _
    simp only [f_X8_partOf, if_true, y_least, xb1_s, y_ite, yFp]
  · show f_X8_partOf x 1 = _
    simp only [f_X8_partOf, o10, if_true, if_false, y_least, xb1_s, y_ite, yFp]
  · show f_X8_partOf x 2 = _
    simp only [f_X8_partOf, o20, o21, if_true, if_false, y_least, xb1_s, y_ite, yFp]
  · show f_X8_partOf x 3 = _
    simp only [f_X8_partOf, o30, o31, o32, if_false, y_least, xb1_s, y_ite, yFp]
theorem f_tier_c (x : Int64) (t : xF32) : ∀ k, k < 4 → f_X0_feeOfTier x (nI k) t = some (yF x t k) := by
  have t0 : (xTier 0).toInt64 = 0 := rfl
  have t1 : (xTier 1).toInt64 = 1000000 := rfl
  have t2 : (xTier 2).toInt64 = 5000000 := rfl
  have t3 : (xTier 3).toInt64 = 20000000 := rfl
  have c10 : ((1000000 : Int64) ≤ 0) = False := eq_false (by decide)
  have c21 : ((5000000 : Int64) ≤ 1000000) = False := eq_false (by decide)
  have c32 : ((20000000 : Int64) ≤ 5000000) = False := eq_false (by decide)
  have hz : ∀ y : Int64, (0 : Int64) * y / 10000 = 0 := fun y => by rw [Int64.zero_mul]; rfl
  intro k hk
  obtain rfl | rfl | rfl | rfl : k = 0 ∨ k = 1 ∨ k = 2 ∨ k = 3 := by omega
  · have e : f_X0_feeOfTier x (nI 0) t = if x ≤ 1000000 then (if x ≤ 0 then some 0 else some ((x - 0) * (t 0).toInt64 / 10000)) else some ((1000000 - 0) * (t 0).toInt64 / 10000) := by
      simp (disch := omega) only [f_X0_feeOfTier, q1, q3, nI_add, y_nge, y_in, xk_t, y_cl, if_false, t0, t1, c10]
    rw [e]
    show _ = some ((if xminL x 1000000 ≤ 0 then 0 else xminL x 1000000 - 0) * (t 0).toInt64 / 10000)
    by_cases h : x ≤ 1000000
    · rw [if_pos h, y_min_l h]
      by_cases h2 : x ≤ 0
      · rw [if_pos h2, if_pos h2, hz]
      · rw [if_neg h2, if_neg h2]
    · rw [if_neg h, y_min_r h, if_neg (by decide)]
  · have e : f_X0_feeOfTier x (nI 1) t = if x ≤ 5000000 then (if x ≤ 1000000 then some 0 else some ((x - 1000000) * (t 1).toInt64 / 10000)) else some ((5000000 - 1000000) * (t 1).toInt64 / 10000) := by
      simp (disch := omega) only [f_X0_feeOfTier, q1, q3, nI_add, y_nge, y_in, xk_t, y_cl, if_false, t1, t2, c21]
    rw [e]
    show _ = some ((if xminL x 5000000 ≤ 1000000 then 0 else xminL x 5000000 - 1000000) * (t 1).toInt64 / 10000)
    by_cases h : x ≤ 5000000
    · rw [if_pos h, y_min_l h]
      by_cases h2 : x ≤ 1000000
      · rw [if_pos h2, if_pos h2, hz]
      · rw [if_neg h2, if_neg h2]
    · rw [if_neg h, y_min_r h, if_neg (by decide)]
  · have e : f_X0_feeOfTier x (nI 2) t = if x ≤ 20000000 then (if x ≤ 5000000 then some 0 else some ((x - 5000000) * (t 2).toInt64 / 10000)) else some ((20000000 - 5000000) * (t 2).toInt64 / 10000) := by
      simp (disch := omega) only [f_X0_feeOfTier, q1, q3, nI_add, y_nge, y_in, xk_t, y_cl, if_false, t2, t3, c32]
    rw [e]
    show _ = some ((if xminL x 20000000 ≤ 5000000 then 0 else xminL x 20000000 - 5000000) * (t 2).toInt64 / 10000)
    by_cases h : x ≤ 20000000
    · rw [if_pos h, y_min_l h]
      by_cases h2 : x ≤ 5000000
      · rw [if_pos h2, if_pos h2, hz]
      · rw [if_neg h2, if_neg h2]
    · rw [if_neg h, y_min_r h, if_neg (by decide)]
  · have e : f_X0_feeOfTier x (nI 3) t = if x ≤ 20000000 then some 0 else some ((x - 20000000) * (t 3).toInt64 / 10000) := by
      simp (disch := omega) only [f_X0_feeOfTier, q3, y_self, if_true, y_in, xk_t, y_cl, t3]
    rw [e]
    show _ = some ((if xminL x x ≤ 20000000 then 0 else xminL x x - 20000000) * (t 3).toInt64 / 10000)
    have hm : xminL x x = x := y_min_l (by rw [y_le64]; omega)
    simp only [hm]
    by_cases h : x ≤ 20000000
    · rw [if_pos h, if_pos h, hz]
    · rw [if_neg h, if_neg h]
theorem f_tier_r {dn gn : Nat} {r t : xF32} {d g : Int32} {s : xF64} (h0 : R0 dn gn r t d g s) (x : Int64) {k : Nat} (hk : k < 4) : f_X8_feeOf x (nI k) s = some (yF x t k) := by
  have a := (h0.2.2.2.2.2.2 k hk).2.1
  simp (disch := omega) only [f_X8_feeOf, f_part x k hk, xb1_s, q10, nI_add, y_in, xk_t, y_cl, a, yF]
theorem y_t4 : (10000 : Int64).toInt = 10000 := rfl
theorem f_rng {x : Int64} (hx : 0 ≤ x.toInt) (hx2 : x.toInt ≤ 1200000000) {t : xF32} {k : Nat} (hk : k < 4) (h1 : 0 ≤ (t k).toInt) (h2 : (t k).toInt ≤ 2000) : 0 ≤ (yF x t k).toInt ∧ (yF x t k).toInt ≤ 240000000 := by
  have hp : 0 ≤ (yFp x k).toInt ∧ (yFp x k).toInt ≤ 1200000000 := by
    have key : ∀ (m f : Int64), m.toInt ≤ x.toInt → 0 ≤ f.toInt → f.toInt ≤ 1200000000 → 0 ≤ (if m ≤ f then (0 : Int64) else m - f).toInt ∧ (if m ≤ f then (0 : Int64) else m - f).toInt ≤ 1200000000 := fun m f a b c => by
      by_cases h : m ≤ f
      · rw [if_pos h, y_z]; omega
      · rw [if_neg h]
        rw [y_le64] at h
        rw [y_subL (by omega) (by omega)]
        omega
    obtain rfl | rfl | rfl | rfl : k = 0 ∨ k = 1 ∨ k = 2 ∨ k = 3 := by omega
    · exact key _ 0 (y_minT x _).1 (by decide) (by decide)
    · exact key _ 1000000 (y_minT x _).1 (by decide) (by decide)
    · exact key _ 5000000 (y_minT x _).1 (by decide) (by decide)
    · exact key _ 20000000 (y_minT x _).1 (by decide) (by decide)
  unfold yF
  have g1 : 0 ≤ (yFp x k).toInt * (t k).toInt := Int.mul_nonneg hp.1 h1
  have g2 : (yFp x k).toInt * (t k).toInt ≤ 1200000000 * 2000 := Int.mul_le_mul hp.2 h2 h1 (by omega)
  have e : (yFp x k * (t k).toInt64).toInt = (yFp x k).toInt * (t k).toInt := by
    rw [y_mulL (by rw [y_w]; omega) (by rw [y_w]; omega), y_w]
  rw [y_divL (by omega) (by rw [y_t4]; omega), e, y_t4]
  omega
theorem y_5 (a b c d e : Int64) : a + b + c + d + e = b + c + d + e + a := by
  rw [Int64.add_comm (b + c + d + e) a, ← Int64.add_assoc, ← Int64.add_assoc, ← Int64.add_assoc]
theorem f_sum (x : Int64) (t : xF32) {fu : Nat} (hfu : 10 < fu) : f_X0_feesOfSum fu x t = some (5000 + yF x t 0 + yF x t 1 + yF x t 2 + yF x t 3) := by
  have k0 := f_tier_c x t 0 (by omega)
  have k1 := f_tier_c x t 1 (by omega)
  have k2 := f_tier_c x t 2 (by omega)
  have k3 := f_tier_c x t 3 (by omega)
  have n0 : ¬ (4 : Int32) ≤ nI 0 := nI_ge (a := 0) (b := 4) (by omega) (by omega)
  have n1 : ¬ (4 : Int32) ≤ nI 1 := nI_ge (a := 1) (b := 4) (by omega) (by omega)
  have n2 : ¬ (4 : Int32) ≤ nI 2 := nI_ge (a := 2) (b := 4) (by omega) (by omega)
  have n3 : ¬ (4 : Int32) ≤ nI 3 := nI_ge (a := 3) (b := 4) (by omega) (by omega)
  have n4 : (4 : Int32) ≤ nI (3 + 1) := nI_le (a := 4) (b := 4) (by omega) (by omega)
  have key : ∀ m, f_X0_feesOfSum_7 fu t (m + 1 + 1 + 1 + 1 + 1) x 5000 (nI 0) = some (5000 + yF x t 0 + yF x t 1 + yF x t 2 + yF x t 3) := fun m => by
    rw [f_X0_feesOfSum_7, if_neg n0, k0, xb1_s, nI_1, f_X0_feesOfSum_7, if_neg n1, k1, xb1_s, nI_1, f_X0_feesOfSum_7, if_neg n2, k2, xb1_s, nI_1, f_X0_feesOfSum_7, if_neg n3, k3, xb1_s, nI_1, f_X0_feesOfSum_7, if_pos n4]
  have e : f_X0_feesOfSum fu x t = f_X0_feesOfSum_7 fu t (fu - 5 + 1 + 1 + 1 + 1 + 1) x 5000 (nI 0) := by
    have : fu - 5 + 1 + 1 + 1 + 1 + 1 = fu := by omega
    rw [this]
    rfl
  rw [e, key]
theorem f_tiers {dn gn : Nat} {r t : xF32} {d g : Int32} {s : xF64} (h0 : R0 dn gn r t d g s) (x : Int64) : f_X8_tiersOf x s = some (yF x t 0 + yF x t 1 + yF x t 2 + yF x t 3) := by
  have k0 : f_X8_feeOf x 0 s = some (yF x t 0) := f_tier_r h0 x (k := 0) (by omega)
  have k1 : f_X8_feeOf x 1 s = some (yF x t 1) := f_tier_r h0 x (k := 1) (by omega)
  have k2 : f_X8_feeOf x 2 s = some (yF x t 2) := f_tier_r h0 x (k := 2) (by omega)
  have k3 : f_X8_feeOf x 3 s = some (yF x t 3) := f_tier_r h0 x (k := 3) (by omega)
  simp only [f_X8_tiersOf, k0, k1, k2, k3, xb1_s]
theorem f_all {pn n dn gn : Nat} {C : sCla} {r t : xF32} {d g : Int32} {s : xF64} (h : RC n C s) (v : VC pn n C) (h0 : R0 dn gn r t d g s) {fu : Nat} (hfu : 20 < fu) : ∃ F, f_X0_feesOfAll fu C t = some F ∧ f_X8_allFees fu s = some F ∧ 0 ≤ F.toInt ∧ F.toInt ≤ 960005000 := by
  have hn := h.1
  obtain ⟨S, g1, g2, g3, g4, g5⟩ := c_disputed h v hfu
  have rn : ∀ k, k < 4 → 0 ≤ (yF S t k).toInt ∧ (yF S t k).toInt ≤ 240000000 := fun k hk => f_rng g3 g4 hk (h0.2.2.2.2.2.2 k hk).2.2.2.2.1 (h0.2.2.2.2.2.2 k hk).2.2.2.2.2
  have r0 := rn 0 (by omega)
  have r1 := rn 1 (by omega)
  have r2 := rn 2 (by omega)
  have r3 := rn 3 (by omega)
  have e1 : (yF S t 0 + yF S t 1).toInt = (yF S t 0).toInt + (yF S t 1).toInt := y_addL (by omega) (by omega)
  have e2 : (yF S t 0 + yF S t 1 + yF S t 2).toInt = (yF S t 0).toInt + (yF S t 1).toInt + (yF S t 2).toInt := by rw [y_addL (by omega) (by omega), e1]
  have e3 : (yF S t 0 + yF S t 1 + yF S t 2 + yF S t 3).toInt = (yF S t 0).toInt + (yF S t 1).toInt + (yF S t 2).toInt + (yF S t 3).toInt := by rw [y_addL (by omega) (by omega), e2]
  have o5 : (5000 : Int64).toInt = 5000 := rfl
  by_cases hc : n = 0
  · subst hc
    have hS := g5 rfl
    subst hS
    have hl : (nI 0 ≤ 0) = True := eq_true (nI_le (a := 0) (b := 0) (by omega) (by omega))
    refine ⟨0, ?_, ?_, by decide, by decide⟩
    · simp only [f_X0_feesOfAll, h.2.1, hl, if_true]
    · have z : yF 0 t 0 + yF 0 t 1 + yF 0 t 2 + yF 0 t 3 + 0 = 0 := by
        have hz : ∀ y : Int64, (0 : Int64) * y / 10000 = 0 := fun y => by rw [Int64.zero_mul]; rfl
        have m0 : yF 0 t 0 = 0 := hz _
        have m1 : yF 0 t 1 = 0 := hz _
        have m2 : yF 0 t 2 = 0 := hz _
        have m3 : yF 0 t 3 = 0 := hz _
        rw [m0, m1, m2, m3]
        rfl
      simp only [f_X8_allFees, g2, xb1_s, f_tiers h0, c_claims h, hl, if_true, z]
  · have hl : (nI n ≤ 0) = False := eq_false (nI_nle (by omega) (by omega))
    refine ⟨yF S t 0 + yF S t 1 + yF S t 2 + yF S t 3 + 5000, ?_, ?_, ?_, ?_⟩
    · simp only [f_X0_feesOfAll, h.2.1, hl, if_false, g1, xb1_s, f_sum S t (fu := fu) (by omega)]
      rw [y_5]
    · simp only [f_X8_allFees, g2, xb1_s, f_tiers h0, c_claims h, hl, if_false]
    · rw [y_addL (by omega) (by omega)]; omega
    · rw [y_addL (by omega) (by omega)]; omega
theorem f_side {pn n dn gn : Nat} {P : sPar} {C : sCla} {r t : xF32} {d g : Int32} {s : xF64} (hP : RP pn P s) (h : RC n C s) (v : VC pn n C) (h0 : R0 dn gn r t d g s) {fu : Nat} (hfu : 20 < fu) (x : Int32) : ∃ S, f_X0_shareOfSide fu x P C t = some S ∧ f_X8_shareOfSide fu x s = some S ∧ 0 ≤ S.toInt ∧ S.toInt ≤ 960005000 := by
  obtain ⟨F, a1, a2, a3, a4⟩ := f_all h v h0 hfu
  obtain ⟨S1, b1, b2, b3, b4⟩ := c_lost hP h v hfu 1
  obtain ⟨S0, c1, c2, c3, c4⟩ := c_lost hP h v hfu 0
  have e : (S0 + S1).toInt = S0.toInt + S1.toInt := y_addL (by omega) (by omega)
  have o2 : (2 : Int64).toInt = 2 := rfl
  have eh : (F / 2).toInt = F.toInt / 2 := by rw [y_divL a3 (by rw [o2]; omega), o2]
  by_cases hz : S0 + S1 = 0
  · have hl : (S0 + S1 ≤ 0) = True := eq_true (by rw [hz]; decide)
    have hz' : (S0 + S1 = 0) = True := eq_true hz
    by_cases hx : x = 1
    · refine ⟨F / 2, ?_, ?_, by omega, by omega⟩
      · simp only [f_X0_shareOfSide, a1, b1, c1, xb1_s, hl, hx, if_true]
      · simp only [f_X8_shareOfSide, a2, b2, c2, xb1_s, hz', hx, if_true]
    · have es : (F - F / 2).toInt = F.toInt - F.toInt / 2 := by rw [y_subL (by omega) (by omega), eh]
      refine ⟨F - F / 2, ?_, ?_, by omega, by omega⟩
      · simp only [f_X0_shareOfSide, a1, b1, c1, xb1_s, hl, hx, if_true, if_false]
      · simp only [f_X8_shareOfSide, a2, b2, c2, xb1_s, hz', hx, if_true, if_false]
  · have hp : 0 < S0.toInt + S1.toInt := by
      have : ¬ (S0 + S1).toInt = 0 := fun q => hz (by rw [y_eq64, q]; rfl)
      omega
    have hl : (S0 + S1 ≤ 0) = False := eq_false (by rw [y_le64, y_z]; omega)
    have hz' : (S0 + S1 = 0) = False := eq_false hz
    have hn : xnzl (S0 + S1) = true := y_nzl hz
    have g1 : 0 ≤ F.toInt * S1.toInt := Int.mul_nonneg a3 b3
    have g2 : F.toInt * S1.toInt ≤ 960005000 * 1200000000 := Int.mul_le_mul a4 b4 b3 (by omega)
    have em : (F * S1).toInt = F.toInt * S1.toInt := y_mulL (by omega) (by omega)
    have ed : (F * S1 / (S0 + S1)).toInt = F.toInt * S1.toInt / (S0.toInt + S1.toInt) := by rw [y_divL (by omega) (by omega), em, e]
    have d1 : 0 ≤ F.toInt * S1.toInt / (S0.toInt + S1.toInt) := Int.ediv_nonneg g1 (by omega)
    have d2 : F.toInt * S1.toInt / (S0.toInt + S1.toInt) ≤ F.toInt := by
      apply Int.le_trans (Int.ediv_le_ediv hp (Int.mul_le_mul_of_nonneg_left (show S1.toInt ≤ S0.toInt + S1.toInt by omega) a3))
      rw [Int.mul_ediv_cancel _ (by omega)]
      exact Int.le_refl _
    by_cases hx : x = 1
    · refine ⟨F * S1 / (S0 + S1), ?_, ?_, by omega, by omega⟩
      · simp only [f_X0_shareOfSide, a1, b1, c1, xb1_s, hl, hn, xk_t, hx, if_true, if_false]
      · simp only [f_X8_shareOfSide, a2, b2, c2, xb1_s, hz', hn, xk_t, hx, if_true, if_false]
    · have es : (F - F * S1 / (S0 + S1)).toInt = F.toInt - F.toInt * S1.toInt / (S0.toInt + S1.toInt) := by rw [y_subL (by omega) (by omega), ed]
      refine ⟨F - F * S1 / (S0 + S1), ?_, ?_, by omega, by omega⟩
      · simp only [f_X0_shareOfSide, a1, b1, c1, xb1_s, hl, hn, xk_t, hx, if_false]
      · simp only [f_X8_shareOfSide, a2, b2, c2, xb1_s, hz', hn, xk_t, hx, if_false]
theorem f_share {pn n dn gn : Nat} {P : sPar} {C : sCla} {r t : xF32} {d g : Int32} {s : xF64} (hP : RP pn P s) {K : Int} (vP : VP K pn P) (h : RC n C s) (v : VC pn n C) (h0 : R0 dn gn r t d g s) {fu : Nat} (hfu : 20 < fu) {i : Nat} (hi : i < pn) : ∃ S, f_X0_shareOfParty fu (nI i) P C t = some S ∧ f_X8_shareOf fu (nI i) s = some S ∧ 0 ≤ S.toInt ∧ S.toInt ≤ 960005001 := by
  have hp := hP.1
  obtain ⟨S, a1, a2, a3, a4⟩ := f_side hP h v h0 hfu (P.2.1 i)
  obtain ⟨w, b1, b2, b3⟩ := p_partOf hP vP (fu := fu) (by omega) S hi
  have e1 := (hP.2.2.2.1 i hi).1
  have b := b3 a3 (by omega)
  refine ⟨w, ?_, ?_, b.1, by omega⟩
  · simp (disch := omega) only [f_X0_shareOfParty, y_in, xk_t, y_cl, a1, xb1_s, b1]
  · simp (disch := omega) only [f_X8_shareOf, q14, nI_add, y_in, xk_t, y_cl, e1, y_wn, a2, xb1_s, b2]
