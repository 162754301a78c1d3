-- a payment, told by what is owed
theorem d_pay1 {n pn : Nat} {D : sDeb} {s : xF64} (h : RD n D s) (v1 : VD1 n D pn) {K : Int} (hK : K ≤ 20000) (v2 : VD2 K n D) {β : Int32 → Int} (h3 : ∀ k, k < n → (D.2.2.2.1 k).toInt ≤ β (D.2.1 k)) (hpr : ∀ k, k < n → (D.2.2.2.1 k).toInt ≤ 3584100000000) {fu : Nat} (hfu : 300 < fu) {x y : Int32} {v : Int64} (hv : f_X2_owedBy fu x y D = some v) (hv0 : 0 < v.toInt) (x3 : Int64) (h0 : 0 ≤ x3.toInt) (hle : x3.toInt ≤ v.toInt) :
    ∃ n' D' s', f_X2_reduce fu x y x3 D = some D' ∧ f_X8_pays fu x y x3 s = some s' ∧ RD n' D' s' ∧ (∀ k, k ≠ 4 → ¬ (122 ≤ k ∧ k < 272) → s' k = s k) ∧ VD1 n' D' pn ∧ VD2 K n' D' ∧ (∀ k, k < n' → (D'.2.2.2.1 k).toInt ≤ β (D'.2.1 k)) ∧ (∀ k, k < n' → (D'.2.2.2.1 k).toInt ≤ 3584100000000) ∧ (∀ a b, ¬ (a = x ∧ b = y) → f_X2_owedBy fu a b D' = f_X2_owedBy fu a b D) ∧ (∃ u, f_X2_owedBy fu x y D' = some u ∧ u.toInt = v.toInt - x3.toInt) ∧ n' ≤ n ∧ (x3.toInt = v.toInt → n' < n) := by
  have hfu' : 40 < fu := by omega
  obtain ⟨w, w1, w2, w3⟩ := d_owed h hfu' x y
  rw [hv] at w1
  cases w1
  rcases w3 with ⟨rfl, -⟩ | ⟨i, hi, rfl, rfl, rfl⟩
  · exact absurd hv0 (by decide)
  have b := v2 i hi
  have bp := hpr i hi
  have es : (D.2.2.2.1 i + D.2.2.2.2.1 i).toInt = (D.2.2.2.1 i).toInt + (D.2.2.2.2.1 i).toInt := y_addL (by omega) (by omega)
  obtain ⟨n', D', s', g1, g2, g3, g4, g5, g6, g7, g8, g9⟩ := d_pays h v1 v2 hfu hi x3 h0 (by omega) (by omega) (by omega)
  refine ⟨n', D', s', g1, g2, g3, g4, g5, g6, fun k hk => ?_, fun k hk => ?_, fun a c hac => ?_, ?_, ?_, ?_⟩
  · obtain ⟨k0, m1, m2, m3, m4⟩ := g7 k hk
    rw [m2]
    exact Int.le_trans m4 (h3 k0 m1)
  · obtain ⟨k0, m1, m2, m3, m4⟩ := g7 k hk
    exact Int.le_trans m4 (hpr k0 m1)
  · obtain ⟨u, u1, u2, u3⟩ := d_owed h hfu' a c
    rw [u1]
    rcases u3 with ⟨rfl, u3⟩ | ⟨j, hj, rfl, rfl, rfl⟩
    · refine d_ow_0 g3 hfu' (fun k hk q => ?_)
      obtain ⟨k0, m1, m2, m3, m4⟩ := g7 k hk
      rw [m2, m3] at q
      exact u3 k0 m1 q
    · have hji : j ≠ i := fun q => hac (by rw [q]; exact ⟨rfl, rfl⟩)
      obtain ⟨k, m1, m2, m3, m4, m5⟩ := g8 j hj hji
      rw [← m2, ← m3, ← m4, ← m5]
      exact d_ow_i g3 g5 hfu' m1
  · rcases g9 with ⟨e1, e2, e3⟩ | ⟨e1, e2, e3, e4, e5⟩
    · exact ⟨0, d_ow_0 g3 hfu' e3, by rw [y_z]; omega⟩
    · refine ⟨_, ?_, by rw [e5]; omega⟩
      have := d_ow_i g3 g5 hfu' (i := i) (by omega)
      rw [e3, e4] at this
      exact this
  · rcases g9 with ⟨e1, e2, e3⟩ | ⟨e1, e2, e3, e4, e5⟩
    · omega
    · omega
  · intro q
    rcases g9 with ⟨e1, e2, e3⟩ | ⟨e1, e2, e3, e4, e5⟩
    · omega
    · omega
theorem d_E {n pn : Nat} {D : sDeb} {s : xF64} (h : RD n D s) (v1 : VD1 n D pn) {K : Int} (hK : K ≤ 20000) (v2 : VD2 K n D) (hpr : ∀ k, k < n → (D.2.2.2.1 k).toInt ≤ 3584100000000) {fu : Nat} (hfu : 40 < fu) (a b : Nat) : ∃ v, f_X2_owedBy fu (nI a) (nI b) D = some v ∧ f_X8_owedBy fu (nI a) (nI b) s = some v ∧ 0 ≤ v.toInt ∧ (0 < v.toInt ↔ yE D n a b = true) := by
  obtain ⟨v, w1, w2, w3⟩ := d_owed h hfu (nI a) (nI b)
  refine ⟨v, w1, w2, ?_⟩
  rcases w3 with ⟨rfl, w3⟩ | ⟨i, hi, e1, e2, rfl⟩
  · refine ⟨by decide, fun q => absurd q (by decide), fun q => ?_⟩
    obtain ⟨k, hk, m1, m2⟩ := yE_of.mp q
    exact absurd ⟨m1, m2⟩ (w3 k hk)
  · have b := v2 i hi
    have bp := hpr i hi
    have es : (D.2.2.2.1 i + D.2.2.2.2.1 i).toInt = (D.2.2.2.1 i).toInt + (D.2.2.2.2.1 i).toInt := y_addL (by omega) (by omega)
    exact ⟨by omega, fun _ => yE_of.mpr ⟨i, hi, e1, e2⟩, fun _ => by omega⟩
theorem d_HO {n pn : Nat} {P : sPar} {D : sDeb} {s : xF64} (hP : RP pn P s) (h : RD n D s) (v1 : VD1 n D pn) {K : Int} (hK : K ≤ 20000) (v2 : VD2 K n D) (hpr : ∀ k, k < n → (D.2.2.2.1 k).toInt ≤ 3584100000000) {fu : Nat} (hfu : 40 < fu) : HO fu (yE D n) pn s := by
  refine ⟨hP.1, p_parties hP, fun a b ha hb => ?_, yE_in hP.1 v1⟩
  obtain ⟨v, w1, w2, w3, w4⟩ := d_E h v1 hK v2 hpr hfu a b
  refine ⟨v, w2, ?_⟩
  rw [y_le64, y_z, ← w4]
  omega
-- the least of a row
def ymn (f : Nat → Int64) : Nat → Int64
  | 0 => f 0
  | i + 1 => xminL (ymn f i) (f (i + 1))
theorem ymn_le (f : Nat → Int64) : ∀ i, (∀ k, k ≤ i → (ymn f i).toInt ≤ (f k).toInt) ∧ ∃ k, k ≤ i ∧ ymn f i = f k
  | 0 => ⟨fun k hk => by rw [show k = 0 by omega]; exact Int.le_refl _, 0, Nat.le_refl _, rfl⟩
  | i + 1 => by
    obtain ⟨h1, k0, h2, h3⟩ := ymn_le f i
    have m := y_minT (ymn f i) (f (i + 1))
    have e : ymn f (i + 1) = xminL (ymn f i) (f (i + 1)) := rfl
    rw [e]
    refine ⟨fun k hk => ?_, ?_⟩
    · by_cases c : k = i + 1
      · subst c; exact m.2.1
      · exact Int.le_trans m.1 (h1 k (by omega))
    · rcases m.2.2 with q | q
      · exact ⟨k0, by omega, by rw [← h3, y_eq64]; exact q⟩
      · exact ⟨i + 1, by omega, by rw [y_eq64]; exact q⟩
def ymr (f : Nat → Int64) (w : Nat) : Nat → Int64
  | 0 => f (w - 1)
  | k + 1 => xminL (ymr f w k) (f k)
theorem ymr_le (f : Nat → Int64) (w : Nat) : ∀ j, (∀ k, k < j → (ymr f w j).toInt ≤ (f k).toInt) ∧ (ymr f w j).toInt ≤ (f (w - 1)).toInt ∧ ((ymr f w j).toInt = (f (w - 1)).toInt ∨ ∃ k, k < j ∧ (ymr f w j).toInt = (f k).toInt)
  | 0 => ⟨fun k hk => absurd hk (Nat.not_lt_zero k), Int.le_refl _, .inl rfl⟩
  | j + 1 => by
    obtain ⟨h1, h2, h3⟩ := ymr_le f w j
    have m := y_minT (ymr f w j) (f j)
    have e : ymr f w (j + 1) = xminL (ymr f w j) (f j) := rfl
    rw [e]
    refine ⟨fun k hk => ?_, Int.le_trans m.1 h2, ?_⟩
    · by_cases c : k = j
      · subst c; exact m.2.1
      · exact Int.le_trans m.1 (h1 k (by omega))
    · rcases m.2.2 with q | q
      · rcases h3 with h3 | ⟨k, hk, h3⟩
        · exact .inl (by rw [q, h3])
        · exact .inr ⟨k, by omega, by rw [q, h3]⟩
      · exact .inr ⟨j, by omega, q⟩
theorem ymn_ymr (f : Nat → Int64) {w : Nat} (hw : 1 ≤ w) : ymr f w (w - 1) = ymn f (w - 1) := by
  obtain ⟨a1, k0, a2, a3⟩ := ymn_le f (w - 1)
  obtain ⟨b1, b2, b3⟩ := ymr_le f w (w - 1)
  rw [y_eq64]
  have c1 : (ymr f w (w - 1)).toInt ≤ (ymn f (w - 1)).toInt := by
    rw [a3]
    by_cases c : k0 = w - 1
    · rw [c]; exact b2
    · exact b1 k0 (by omega)
  have c2 : (ymn f (w - 1)).toInt ≤ (ymr f w (w - 1)).toInt := by
    rcases b3 with q | ⟨k, hk, q⟩
    · rw [q]; exact a1 _ (by omega)
    · rw [q]; exact a1 _ (by omega)
  omega
-- one ring is cleared
def ynx (w i : Nat) : Nat := if i + 1 = w then 0 else i + 1
theorem ynx_lt {w i : Nat} (h : i < w) : ynx w i < w := by
  unfold ynx
  by_cases c : i + 1 = w
  · rw [if_pos c]; omega
  · rw [if_neg c]; omega
theorem r_member {w i : Nat} {G1 : xF32} {r : Nat → Nat} (hw : 2 ≤ w) (h6 : w ≤ 6) (hr : ∀ k, k < w → G1 k = nI (r k)) (hi : i < w) : f_X5_memberAfter (nI i) (nI w) G1 = some (nI (r (ynx w i))) := by
  unfold ynx
  by_cases c : i + 1 = w
  · have hl : nI (w - 1) ≤ nI i := nI_le (by omega) (by omega)
    rw [if_pos c, f_X5_memberAfter, y_m1 (by omega), if_pos hl, y_xk y_in0, y_cl0, hr 0 (by omega)]
  · have hl : ¬ nI (w - 1) ≤ nI i := nI_ge (by omega) (by omega)
    rw [if_neg c, f_X5_memberAfter, y_m1 (by omega), if_neg hl, nI_1, y_xk (y_in (by omega) (by omega)), y_cl (by omega), hr (i + 1) (by omega)]
theorem r_rem {w i : Nat} (hw : 2 ≤ w) (h6 : w ≤ 6) (hi : i < w) : nI (i + 1) - nI (i + 1) / nI w * nI w = nI (ynx w i) := by
  rw [pk_rem (by omega) (by omega) (by omega)]
  unfold ynx
  by_cases c : i + 1 = w
  · rw [if_pos c, c, Nat.mod_self]
  · rw [if_neg c, Nat.mod_eq_of_lt (by omega)]
theorem yval_inj {E : Nat → Nat → Bool} {w : Nat} {r : Nat → Nat} (v : yval E w r) {i j : Nat} (hi : i < w) (hj : j < w) (e : r i = r j) : i = j := by
  by_cases c : i = j
  · exact c
  · by_cases l : i < j
    · exact absurd e ((v.2.1 j (by omega) hj).2.2.2 i l)
    · exact absurd e.symm ((v.2.1 i (by omega) hi).2.2.2 j (by omega))
theorem yval_E {E : Nat → Nat → Bool} {w : Nat} {r : Nat → Nat} (v : yval E w r) (hw : 2 ≤ w) {i : Nat} (hi : i < w) : E (r i) (r (ynx w i)) = true := by
  unfold ynx
  by_cases c : i + 1 = w
  · rw [if_pos c]
    have := v.2.2
    rw [show w - 1 = i by omega] at this
    exact this
  · rw [if_neg c]
    have := (v.2.1 (i + 1) (by omega) (by omega)).2.2.1
    rw [Nat.add_sub_cancel] at this
    exact this
/-- what a state of the debts keeps -/
def OD (K : Int) (pn n : Nat) (β : Int32 → Int) (D : sDeb) (s : xF64) : Prop := RD n D s ∧ VD1 n D pn ∧ VD2 K n D ∧ (∀ k, k < n → (D.2.2.2.1 k).toInt ≤ β (D.2.1 k)) ∧ ∀ k, k < n → (D.2.2.2.1 k).toInt ≤ 3584100000000
theorem c_pays {K : Int} (hK : K ≤ 20000) {pn : Nat} {β : Int32 → Int} {fu : Nat} (hfu : 300 < fu) {w : Nat} (hw : 2 ≤ w) (h6 : w ≤ 6) {E : Nat → Nat → Bool} {r : Nat → Nat} (v : yval E w r) {G1 ring : xF32} (hG : ∀ k, k < w → G1 k = nI (r k)) (hR : ∀ k, k < w → ring k = nI (r k)) {ov : Nat → Int64} {L : Int64} (hL0 : 0 < L.toInt) (hL : ∀ k, k < w → L.toInt ≤ (ov k).toInt) {k0 : Nat} (hk0 : k0 < w) (hLk : L = ov k0)
    {kx : Int64 → Int32 → Int64 → Int32 → xF64 → xF64 → xF64 → Int32 → xF32 → Option (Int64 × Int32 × xF64 × xF64 × xF64 × Int32 × xF32)} (x1 : Int64) (z0 : Int32) (z3 z4 : xF64) (z5 : Int32) :
    ∀ l i m n D s, i + l = w → l < m → OD K pn n β D s → (∀ j, i ≤ j → j < w → f_X2_owedBy fu (nI (r j)) (nI (r (ynx w j))) D = some (ov j)) → ∃ n' D' s', f_X0_clearRing_65 fu (nI w) G1 m L (nI i) D = some (L * (nI w).toInt64, D') ∧ f_X8_clearRings_87 kx fu m x1 (nI w) L (nI i) z0 s z3 z4 z5 ring = kx x1 (nI w) L z0 s' z3 z4 z5 ring ∧ OD K pn n' β D' s' ∧ (∀ k, k ≠ 4 → ¬ (122 ≤ k ∧ k < 272) → s' k = s k) ∧ n' ≤ n ∧ (i ≤ k0 → n' < n) := by
  intro l
  induction l with
  | zero =>
    intro i m n D s hi hm hO ho
    obtain ⟨m, rfl⟩ : ∃ m', m = m' + 1 := ⟨m - 1, by omega⟩
    have hi' : i = w := by omega
    subst hi'
    refine ⟨n, D, s, ?_, ?_, hO, fun _ _ _ => rfl, Nat.le_refl _, fun q => by omega⟩
    · rw [f_X0_clearRing_65, if_pos (y_self (by omega))]
    · rw [f_X8_clearRings_87, if_pos (y_self (by omega))]
  | succ l ih =>
    intro i m n D s hi hm hO ho
    obtain ⟨m, rfl⟩ : ∃ m', m = m' + 1 := ⟨m - 1, by omega⟩
    obtain ⟨h, v1, v2, h3, hpr⟩ := hO
    have hoi := ho i (Nat.le_refl _) (by omega)
    have hLi := hL i (by omega)
    obtain ⟨n1, D1, s1, g1, g2, g3, g4, g5, g6, g7, g8, g9, g10, g11, g12⟩ := d_pay1 h v1 hK v2 h3 hpr hfu hoi (by omega) L (by omega) hLi
    have hlt : ∀ k, k < w → r k < 6 := fun k hk => yval_lt v hk
    obtain ⟨n', D', s', k1, k2, k3, k4, k5, k6⟩ := ih (i + 1) m n1 D1 s1 (by omega) (by omega) ⟨g3, g5, g6, g7, g8⟩ (fun j hj1 hj2 => by
      rw [g9 _ _ (fun q => by
        have q1 := (nI_eq (a := r j) (b := r i) (by have := hlt j hj2; omega) (by have := hlt i (by omega); omega)).mp q.1
        have := yval_inj v hj2 (by omega) q1
        omega)]
      exact ho j (by omega) hj2)
    refine ⟨n', D', s', ?_, ?_, k3, fun k hk hk2 => by rw [k4 k hk hk2, g4 k hk hk2], by omega, fun q => ?_⟩
    · rw [← k1, f_X0_clearRing_65, if_neg (nI_ge (by omega) (by omega)), y_xk (y_in (by omega) (by omega)), r_member hw h6 hG (by omega), xb1_s, y_cl (by omega), hG i (by omega), g1, xb1_s, nI_1]
    · have hx := ynx_lt (w := w) (i := i) (by omega)
      have hnz : xnz (nI w) = true := y_nz (nI_ne0 (by omega) (by omega))
      rw [← k2, f_X8_clearRings_87, if_neg (nI_ge (by omega) (by omega)), y_xk (y_in (by omega) (by omega)), y_xk hnz, nI_1, r_rem hw h6 (by omega), y_xk (y_in (by omega) (by omega)), y_cl (by omega), y_cl (by omega), hR i (by omega), hR _ hx, g2, xb1_s]
    · by_cases c : i = k0
      · subst c
        have := g12 (by rw [hLk])
        omega
      · have := k6 (by omega)
        omega
theorem c_ring {K : Int} (hK : K ≤ 20000) {pn n : Nat} {β : Int32 → Int} {fu : Nat} (hfu : 300 < fu) {D : sDeb} {s : xF64} (hO : OD K pn n β D s) {w : Nat} (hw : 2 ≤ w) (h6 : w ≤ 6) {r : Nat → Nat} (v : yval (yE D n) w r) {G1 ring : xF32} (hG : ∀ k, k < w → G1 k = nI (r k)) (hR : ∀ k, k < w → ring k = nI (r k)) (x1 : Int64) (z0 : Int32) (z3 z4 : xF64) (z5 : Int32) (m0 : Nat) :
    ∃ L n' D' s', f_X0_clearRing fu D (nI w) G1 = some (L * (nI w).toInt64, D') ∧ f_X8_clearRings_16 fu (m0 + 1) x1 (nI w) z0 s z3 z4 z5 ring = (xb2 (f_X8_firstRing fu s' ring) fun v47 uF12_48 => f_X8_clearRings_16 fu m0 (x1 + L * (nI w).toInt64) v47 z0 s' z3 z4 z5 uF12_48) ∧ OD K pn n' β D' s' ∧ (∀ k, k ≠ 4 → ¬ (122 ≤ k ∧ k < 272) → s' k = s k) ∧ n' < n := by
  obtain ⟨h, v1, v2, h3, hpr⟩ := hO
  have hfu' : 40 < fu := by omega
  have hex : ∀ j, j < w → ∃ v, f_X2_owedBy fu (nI (r j)) (nI (r (ynx w j))) D = some v ∧ f_X8_owedBy fu (nI (r j)) (nI (r (ynx w j))) s = some v ∧ 0 < v.toInt := fun j hj => by
    obtain ⟨u, u1, u2, u3, u4⟩ := d_E h v1 hK v2 hpr hfu' (r j) (r (ynx w j))
    exact ⟨u, u1, u2, u4.mpr (yval_E v hw hj)⟩
  let ov : Nat → Int64 := fun j => (f_X2_owedBy fu (nI (r j)) (nI (r (ynx w j))) D).getD 0
  have hov : ∀ j, j < w → f_X2_owedBy fu (nI (r j)) (nI (r (ynx w j))) D = some (ov j) ∧ f_X8_owedBy fu (nI (r j)) (nI (r (ynx w j))) s = some (ov j) ∧ 0 < (ov j).toInt := fun j hj => by
    obtain ⟨u, u1, u2, u3⟩ := hex j hj
    have : ov j = u := by show (f_X2_owedBy fu (nI (r j)) (nI (r (ynx w j))) D).getD 0 = u; rw [u1]; rfl
    rw [this]
    exact ⟨u1, u2, u3⟩
  obtain ⟨l1, k0, l2, l3⟩ := ymn_le ov (w - 1)
  have hL0 : 0 < (ymn ov (w - 1)).toInt := by rw [l3]; exact (hov k0 (by omega)).2.2
  obtain ⟨n', D', s', g1, g2, g3, g4, g5, g6⟩ := c_pays hK hfu hw h6 v hG hR hL0 (fun k hk => l1 k (by omega)) (by omega : k0 < w) l3 (kx := fun n38 n39 n40 uF0_41 uF1_42 uF3_43 uF4_44 uF5_45 uF12_46 => (xb2 (f_X8_firstRing fu uF1_42 uF12_46) fun v47 uF12_48 => (f_X8_clearRings_16 fu m0 (n38 + (n40 * n39.toInt64)) v47 uF0_41 uF1_42 uF3_43 uF4_44 uF5_45 uF12_48))) x1 z0 z3 z4 z5 w 0 fu n D s (by omega) (by omega) ⟨h, v1, v2, h3, hpr⟩ (fun j _ hj => (hov j hj).1)
  refine ⟨ymn ov (w - 1), n', D', s', ?_, ?_, g3, g4, g6 (by omega)⟩
  · have key : ∀ l i m, i + l = w → 1 ≤ i → l < m → f_X0_clearRing_22 fu (nI w) G1 m (ymn ov (i - 1)) (nI i) D = f_X0_clearRing_65 fu (nI w) G1 fu (ymn ov (w - 1)) 0 D := by
      intro l
      induction l with
      | zero =>
        intro i m hi h1 hm
        obtain ⟨m, rfl⟩ : ∃ m', m = m' + 1 := ⟨m - 1, by omega⟩
        have hi' : i = w := by omega
        subst hi'
        rw [f_X0_clearRing_22, if_pos (y_self (by omega))]
      | succ l ih =>
        intro i m hi h1 hm
        obtain ⟨m, rfl⟩ : ∃ m', m = m' + 1 := ⟨m - 1, by omega⟩
        have e : xminL (ymn ov (i - 1)) (ov i) = ymn ov (i + 1 - 1) := by
          obtain ⟨i', rfl⟩ : ∃ i', i = i' + 1 := ⟨i - 1, by omega⟩
          rfl
        rw [← ih (i + 1) m (by omega) (by omega) (by omega), f_X0_clearRing_22, if_neg (nI_ge (by omega) (by omega)), y_xk (y_in (by omega) (by omega)), r_member hw h6 hG (by omega), xb1_s, y_cl (by omega), hG i (by omega), (hov i (by omega)).1, xb1_s, e, nI_1]
    have m0' : f_X5_memberAfter 0 (nI w) G1 = some (nI (r (ynx w 0))) := r_member (i := 0) hw h6 hG (by omega)
    have k1 := key (w - 1) 1 fu (by omega) (by omega) (by omega)
    rw [f_X0_clearRing, y_xk y_in0, m0', xb1_s, y_cl0, hG 0 (by omega), (hov 0 (by omega)).1, xb1_s]
    exact k1.trans g1
  · have hnw : ¬ nI w ≤ 0 := nI_nle (by omega) (by omega)
    have ex : ynx w (w - 1) = 0 := if_pos (by omega)
    have h0 := (hov (w - 1) (by omega)).2.1
    rw [ex] at h0
    rw [f_X8_clearRings_16, if_neg hnw, y_m1 (by omega), y_xk (y_in (by omega) (by omega)), y_xk y_in0, y_cl (by omega), y_cl0, hR (w - 1) (by omega), hR 0 (by omega), h0, xb1_s]
    refine Eq.trans (ylpG (fun m (acc : Int64) y => f_X8_clearRings_43 (fun n23 n24 n25 uF0_26 uF1_27 uF3_28 uF4_29 uF5_30 uF12_31 => (f_X8_clearRings_87 (fun n38 n39 n40 uF0_41 uF1_42 uF3_43 uF4_44 uF5_45 uF12_46 => (xb2 (f_X8_firstRing fu uF1_42 uF12_46) fun v47 uF12_48 => (f_X8_clearRings_16 fu m0 (n38 + (n40 * n39.toInt64)) v47 uF0_41 uF1_42 uF3_43 uF4_44 uF5_45 uF12_48))) fu fu n23 n24 n25 0 uF0_26 uF1_27 uF3_28 uF4_29 uF5_30 uF12_31)) fu m x1 (nI w) acc y z0 s z3 z4 z5 ring) (ymr ov w) (w - 1) (f_X8_clearRings_87 (fun n38 n39 n40 uF0_41 uF1_42 uF3_43 uF4_44 uF5_45 uF12_46 => (xb2 (f_X8_firstRing fu uF1_42 uF12_46) fun v47 uF12_48 => (f_X8_clearRings_16 fu m0 (n38 + (n40 * n39.toInt64)) v47 uF0_41 uF1_42 uF3_43 uF4_44 uF5_45 uF12_48))) fu fu x1 (nI w) (ymn ov (w - 1)) 0 z0 s z3 z4 z5 ring) ?_ ?_ (by omega)) g2
    · intro m
      show f_X8_clearRings_43 _ fu (m + 1) x1 (nI w) _ (nI (w - 1)) z0 s z3 z4 z5 ring = _
      rw [f_X8_clearRings_43, y_m1 (by omega), if_pos (y_self (by omega)), ymn_ymr ov (by omega)]
    · intro m i hi
      have ei : ynx w i = i + 1 := if_neg (by omega)
      have h1 := (hov i (by omega)).2.1
      rw [ei] at h1
      show f_X8_clearRings_43 _ fu (m + 1) x1 (nI w) _ (nI i) z0 s z3 z4 z5 ring = _
      rw [f_X8_clearRings_43, y_m1 (by omega), if_neg (nI_ge (by omega) (by omega)), y_xk (y_in (by omega) (by omega)), nI_1, y_xk (y_in (by omega) (by omega)), y_cl (by omega), y_cl (by omega), hR i (by omega), hR (i + 1) (by omega), h1, xb1_s, y_least, xb1_s]
      rfl
/-- all rings are cleared -/
theorem c_all {K : Int} (hK : K ≤ 20000) {pn : Nat} {P : sPar} {β : Int32 → Int} {fu : Nat} (hfu : 70000 < fu) {J : sJou} (z0 : Int32) (z3 z4 : xF64) (z5 : Int32) : ∀ N n i m m' D s (acc : Int64) (G0 : Int32) (G1 G2 : xF32) (x3 : Int32) (ring : xF32), n ≤ N → n + i ≤ 30 → n < m → n < m' → RP pn P s → OD K pn n β D s → ((yfr (yE D n) = none ∧ G0 = 0) ∨ ∃ q r, yfr (yE D n) = some (q, r) ∧ G0 = nI q ∧ ∀ k, k < q → G1 k = nI (r k)) → ((yfr (yE D n) = none ∧ x3 = 0) ∨ ∃ q r, yfr (yE D n) = some (q, r) ∧ x3 = nI q ∧ ∀ k, k < q → ring k = nI (r k)) →
    ∃ acc' n' D' s' G0' G1' G2' ring', f_X0_clearAllRings_13 fu m acc (nI i) D J G0 G1 G2 = (xb1 (f_X3_addOne fu 10 acc' J) fun z => some (acc', D', z, G0', G1', G2')) ∧ f_X8_clearRings_16 fu m' acc x3 z0 s z3 z4 z5 ring = (xb1 (f_X8_notes fu 10 acc' s') fun z => (xb2 (f_X8_keeps fu z3 z4 z5) fun a b => some (acc', z0, z, z3, a, b, ring'))) ∧ OD K pn n' β D' s' ∧ ∀ k, k ≠ 4 → ¬ (122 ≤ k ∧ k < 272) → s' k = s k := by
  intro N
  induction N with
  | zero =>
    intro n i m m' D s acc G0 G1 G2 x3 ring hn hi hm hm' hP hO hc hr
    obtain ⟨m, rfl⟩ : ∃ m1, m = m1 + 1 := ⟨m - 1, by omega⟩
    obtain ⟨m', rfl⟩ : ∃ m1, m' = m1 + 1 := ⟨m' - 1, by omega⟩
    have hn0 : n = 0 := by omega
    subst hn0
    have hno : yfr (yE D 0) = none := by
      cases hf : yfr (yE D 0) with
      | none => rfl
      | some q =>
        obtain ⟨w, r⟩ := q
        have := yfr_val hf
        have := this.2.2.2.2
        cases this
    rw [hno] at hc hr
    have hG : G0 = 0 := by
      rcases hc with ⟨-, h⟩ | ⟨q, r, h, -⟩
      · exact h
      · cases h
    have hx : x3 = 0 := by
      rcases hr with ⟨-, h⟩ | ⟨q, r, h, -⟩
      · exact h
      · cases h
    subst hG
    subst hx
    have l0 : (0 : Int32) ≤ 0 := by decide
    refine ⟨acc, 0, D, s, 0, G1, G2, ring, ?_, ?_, hO, fun _ _ _ => rfl⟩
    · rw [f_X0_clearAllRings_13]
      by_cases c : (30 : Int32) ≤ nI i
      · rw [if_pos c]
      · rw [if_neg c, if_pos l0]
    · rw [f_X8_clearRings_16, if_pos l0]
  | succ N ih =>
    intro n i m m' D s acc G0 G1 G2 x3 ring hn hi hm hm' hP hO hc hr
    obtain ⟨m, rfl⟩ : ∃ m1, m = m1 + 1 := ⟨m - 1, by omega⟩
    obtain ⟨m', rfl⟩ : ∃ m1, m' = m1 + 1 := ⟨m' - 1, by omega⟩
    have l0 : (0 : Int32) ≤ 0 := by decide
    rcases hc with ⟨hno, rfl⟩ | ⟨w, r, hso, rfl, hG⟩
    · have hx : x3 = 0 := by
        rcases hr with ⟨-, h⟩ | ⟨q, r, h, -⟩
        · exact h
        · rw [hno] at h; cases h
      subst hx
      refine ⟨acc, n, D, s, 0, G1, G2, ring, ?_, ?_, hO, fun _ _ _ => rfl⟩
      · rw [f_X0_clearAllRings_13]
        by_cases c : (30 : Int32) ≤ nI i
        · rw [if_pos c]
        · rw [if_neg c, if_pos l0]
      · rw [f_X8_clearRings_16, if_pos l0]
    · have hR : x3 = nI w ∧ ∀ k, k < w → ring k = nI (r k) := by
        rcases hr with ⟨h, -⟩ | ⟨q, r', h, h2, h3⟩
        · rw [hso] at h; cases h
        · rw [hso] at h
          cases h
          exact ⟨h2, h3⟩
      obtain ⟨rfl, hR⟩ := hR
      obtain ⟨hw2, hw6, hv⟩ := yfr_val hso
      obtain ⟨L, n1, D1, s1, g1, g2, g3, g4, g5⟩ := c_ring (fu := fu) hK (by omega) hO hw2 hw6 hv hG hR acc z0 z3 z4 z5 m'
      have hP1 : RP pn P s1 := hP.frame (fun k hk => g4 k (by omega) (by omega))
      have hO1 := g3
      obtain ⟨h, v1, v2, h3, hpr⟩ := g3
      obtain ⟨g0', G1', G2', f1, f2⟩ := r_find (fu := fu) (by omega) h.1 h.2.1 hP1.1 v1 (nI w) G1 G2
      obtain ⟨x3', ring', e1, e2⟩ := h_find hfu (d_HO hP1 h v1 hK v2 hpr (by omega)) ring
      obtain ⟨acc', n', D', s', a1, a2, a3, a4, k1, k2, k3, k4⟩ := ih n1 (i + 1) m m' D1 s1 (acc + L * (nI w).toInt64) g0' G1' G2' x3' ring' (by omega) (by omega) (by omega) (by omega) hP1 hO1 f2 e2
      refine ⟨acc', n', D', s', a1, a2, a3, a4, ?_, ?_, k3, fun k hk hk2 => by rw [k4 k hk hk2, g4 k hk hk2]⟩
      · have c30 : ¬ (30 : Int32) ≤ nI i := nI_ge (a := i) (b := 30) (by omega) (by omega)
        have cw : ¬ nI w ≤ 0 := nI_nle (by omega) (by omega)
        rw [f_X0_clearAllRings_13, if_neg c30, if_neg cw, g1, xb2_s, f1, xb3_s, nI_1]
        exact k1
      · rw [g2, e1, xb2_s]
        exact k2
