-- what is remembered
theorem k_rem {fu : Nat} (hfu : 400 < fu) (s t : xF64) : ∃ t', f_X8_remembers fu s t = some t' ∧ ∀ k, k < 304 → t' k = s k := by
  have cg : (304 : Int32) ≤ nI 304 := nI_le (a := 304) (b := 304) (by omega) (by omega)
  obtain ⟨t', h1, h2⟩ := ycpy (fun m i t => f_X8_remembers_2 fu s m i t) s 0 304 (fun t => some t) (fun m t => by
    show f_X8_remembers_2 fu s (m + 1) (nI 304) t = some t
    rw [f_X8_remembers_2, if_pos cg]) (fun m i t hi => by
    have cn : ¬ (304 : Int32) ≤ nI i := nI_ge (a := i) (b := 304) hi (by omega)
    show f_X8_remembers_2 fu s (m + 1) (nI i) t = f_X8_remembers_2 fu s m (nI (i + 1)) (vp_updL t (0 + i) (s i))
    rw [f_X8_remembers_2, if_neg cn, y_xk (y_in hi (by omega)), y_xk (y_in hi (by omega)), y_cl (by omega), nI_1, Nat.zero_add]) 304 0 fu t (by omega) (by omega)
  refine ⟨t', h1, fun k hk => ?_⟩
  rw [h2 k, if_pos (by omega)]
  rfl
def yq1 (q : Nat) : Nat := if q < 6 then q + 1 else 6
theorem k_cp55 {fu q : Nat} (hfu : 400 < fu) (hq0 : 1 ≤ q) (hq : q ≤ 6) (f h : xF64) : ∃ h', f_X8_keeps_55 fu f fu 0 h (nI q) = some (h', nI q) ∧ ∀ k, h' k = if 304 * (q - 1) ≤ k ∧ k < 304 * (q - 1) + 304 then f (k - 304 * (q - 1)) else h k := by
  have cg : (304 : Int32) ≤ nI 304 := nI_le (a := 304) (b := 304) (by omega) (by omega)
  obtain ⟨h', h1, h2⟩ := ycpy (fun m i t => f_X8_keeps_55 fu f m i t (nI q)) f (304 * (q - 1)) 304 (fun t => some (t, nI q)) (fun m t => by
    show f_X8_keeps_55 fu f (m + 1) (nI 304) t (nI q) = some (t, nI q)
    rw [f_X8_keeps_55, if_pos cg]) (fun m i t hi => by
    have cn : ¬ (304 : Int32) ≤ nI i := nI_ge (a := i) (b := 304) hi (by omega)
    have ei : 304 * (nI q - 1) + nI i = nI (304 * (q - 1) + i) := by
      rw [y_m1 hq0, q304, pk_mul, nI_add]
    show f_X8_keeps_55 fu f (m + 1) (nI i) t (nI q) = f_X8_keeps_55 fu f m (nI (i + 1)) (vp_updL t (304 * (q - 1) + i) (f i)) (nI q)
    rw [f_X8_keeps_55, if_neg cn, y_xk (y_in hi (by omega)), ei, y_xk (y_in (by omega) (by omega)), y_cl (by omega), y_cl (by omega), nI_1]) 304 0 fu h (by omega) (by omega)
  exact ⟨h', h1, h2⟩
theorem k_keeps {fu q : Nat} (hfu : 2000 < fu) (hq : q ≤ 6) (f h : xF64) : ∃ h', f_X8_keeps fu f h (nI q) = some (h', nI (yq1 q)) ∧ (∀ k, k < 304 → h' (304 * (yq1 q - 1) + k) = f k) ∧ ∀ j k, j + 1 < yq1 q → k < 304 → h' (304 * j + k) = h (304 * (if q < 6 then j else j + 1) + k) := by
  by_cases c : q < 6
  · have e : yq1 q = q + 1 := if_pos c
    have hne : ¬ nI q = 6 := fun z => by
      have := (nI_eq (a := q) (b := 6) (by omega) (by omega)).mp z
      omega
    obtain ⟨h', h1, h2⟩ := k_cp55 (fu := fu) (q := q + 1) (by omega) (by omega) (by omega) f h
    rw [e]
    refine ⟨h', by rw [f_X8_keeps, if_neg hne, nI_1]; exact h1, fun k hk => ?_, fun j k hj hk => ?_⟩
    · rw [h2, if_pos (by omega), Nat.add_sub_cancel_left]
    · rw [h2, if_neg (by omega), if_pos c]
  · have e : yq1 q = 6 := if_neg c
    have hq6 : q = 6 := by omega
    subst hq6
    have cg : (1520 : Int32) ≤ nI 1520 := nI_le (a := 1520) (b := 1520) (by omega) (by omega)
    obtain ⟨g, g1, -, g3⟩ := yshl (fun m i s => f_X8_keeps_11 fu f m i s (nI 6)) 0 304 1520 0 (by omega) (fun _ => True) (fun t => f_X8_keeps_55 fu f fu 0 t (nI 6)) (fun _ _ _ _ _ _ => trivial) (fun m s _ => by
      show f_X8_keeps_11 fu f (m + 1) (nI 1520) s (nI 6) = _
      rw [f_X8_keeps_11, if_pos cg]) (fun m i s _ _ hi => by
      have cn : ¬ (1520 : Int32) ≤ nI i := nI_ge (a := i) (b := 1520) hi (by omega)
      have ei : nI i + 304 = nI (i + 304) := nI_add i 304
      show f_X8_keeps_11 fu f (m + 1) (nI i) s (nI 6) = f_X8_keeps_11 fu f m (nI (i + 1)) (vp_updL s (0 + i) (s (0 + i + 304))) (nI 6)
      rw [f_X8_keeps_11, if_neg cn, ei, y_xk (y_in (by omega) (by omega)), y_xk (y_in (by omega) (by omega)), y_cl (by omega), y_cl (by omega), nI_1, Nat.zero_add]) 1520 0 fu h (by omega) (by omega) (by omega) trivial
    obtain ⟨h', h1, h2⟩ := k_cp55 (fu := fu) (q := 6) (by omega) (by omega) (by omega) f g
    rw [e]
    refine ⟨h', ?_, fun k hk => ?_, fun j k hj hk => ?_⟩
    · have e6 : nI 6 = 6 := rfl
      rw [f_X8_keeps, if_pos e6]
      exact g1.trans h1
    · rw [h2, if_pos (by omega), Nat.add_sub_cancel_left]
    · rw [h2, if_neg (by omega), g3, if_pos (by omega), if_neg c, show 304 * j + k + 304 = 304 * (j + 1) + k by omega]
def RH (K : Int) (A : Nat → sAcc) (M1 M2 : Int32) (F4 : xF64) (F5 : Int32) : Prop := ∃ r q, r < 7 ∧ q ≤ 6 ∧ M1 = nI r ∧ M2 = nI q ∧ F5 = nI q ∧ ∀ j, j < q → RA K (A (2 + (r + 7 - q + j) % 7)) (fun k => F4 (304 * j + k))
theorem RH.mono {K L : Int} {A : Nat → sAcc} {M1 M2 : Int32} {F4 : xF64} {F5 : Int32} (h : RH K A M1 M2 F4 F5) (hl : K ≤ L) : RH L A M1 M2 F4 F5 := by
  obtain ⟨r, q, h1, h2, h3, h4, h5, h6⟩ := h
  exact ⟨r, q, h1, h2, h3, h4, h5, fun j hj => (h6 j hj).mono hl⟩
theorem y_minq {q : Nat} (hq : q ≤ 6) : xminI (nI q + 1) 6 = nI (yq1 q) := by
  unfold xminI yq1
  rw [nI_1]
  by_cases c : q < 6
  · have : ¬ (6 : Int32) < nI (q + 1) := nI_nlt (a := 6) (b := q + 1) (by omega) (by omega)
    rw [if_neg this, if_pos c]
  · have : (6 : Int32) < nI (q + 1) := nI_lt (a := 6) (b := q + 1) (by omega) (by omega)
    rw [if_pos this, if_neg c]
    rfl
theorem k_keepRow {r q : Nat} (hr : r < 7) (hq : q ≤ 6) : f_X7_keepRow (nI r) (nI q) = some (nI ((r + 1) % 7), nI (yq1 q)) := by
  unfold f_X7_keepRow
  rw [y_minq hq]
  by_cases c : 6 ≤ r
  · have : (6 : Int32) ≤ nI r := nI_le (a := 6) (b := r) c (by omega)
    rw [if_pos this, show (r + 1) % 7 = 0 by omega]
    rfl
  · have : ¬ (6 : Int32) ≤ nI r := nI_ge (a := r) (b := 6) (by omega) (by omega)
    rw [if_neg this, nI_1, show (r + 1) % 7 = r + 1 by omega]
/-- a row put into the history, on both sides -/
theorem k_hist {K : Int} {A : Nat → sAcc} {M1 M2 : Int32} {F4 : xF64} {F5 : Int32} (h : RH K A M1 M2 F4 F5) {X : sAcc} {f : xF64} (hX : RA K X f) {fu : Nat} (hfu : 2000 < fu) : ∃ r q F4' , r < 7 ∧ M1 = nI r ∧ xin M1 7 = true ∧ M1.toNatClampNeg = r ∧ f_X7_keepRow M1 M2 = some (nI ((r + 1) % 7), nI q) ∧ f_X8_keeps fu f F4 F5 = some (F4', nI q) ∧ RH K (upA A (2 + r) X) (nI ((r + 1) % 7)) (nI q) F4' (nI q) := by
  obtain ⟨r, q, h1, h2, rfl, rfl, rfl, h6⟩ := h
  obtain ⟨F4', g1, g2, g3⟩ := k_keeps (fu := fu) hfu h2 f F4
  refine ⟨r, yq1 q, F4', h1, rfl, y_in h1 (by omega), y_cl (by omega), k_keepRow h1 h2, g1, (r + 1) % 7, yq1 q, by omega, ?_, rfl, rfl, rfl, fun j hj => ?_⟩
  · unfold yq1
    by_cases c : q < 6
    · rw [if_pos c]; omega
    · rw [if_neg c]; omega
  · by_cases e : j = yq1 q - 1
    · subst e
      have e2 : 2 + ((r + 1) % 7 + 7 - yq1 q + (yq1 q - 1)) % 7 = 2 + r := by
        have : yq1 q ≤ 6 ∧ 1 ≤ yq1 q := by
          unfold yq1
          by_cases c : q < 6
          · rw [if_pos c]; omega
          · rw [if_neg c]; omega
        omega
      rw [e2, upA_s]
      exact hX.frame (fun k hk => g2 k hk)
    · have hj1 : j + 1 < yq1 q := by omega
      by_cases c : q < 6
      · have e1 : yq1 q = q + 1 := if_pos c
        rw [e1] at hj1 ⊢
        rw [upA_n (by omega), show (r + 1) % 7 + 7 - (q + 1) + j = (r + 1) % 7 + 6 - q + j by omega]
        have e2 : ((r + 1) % 7 + 6 - q + j) % 7 = (r + 7 - q + j) % 7 := by omega
        rw [e2]
        refine (h6 j (by omega)).frame (fun k hk => ?_)
        show F4' (304 * j + k) = F4 (304 * j + k)
        rw [g3 j k (by omega) hk, if_pos c]
      · have e1 : yq1 q = 6 := if_neg c
        have hq6 : q = 6 := by omega
        subst hq6
        rw [e1] at hj1 ⊢
        rw [upA_n (by omega)]
        have e2 : ((r + 1) % 7 + 7 - 6 + j) % 7 = (r + 7 - 6 + (j + 1)) % 7 := by omega
        rw [e2]
        refine (h6 (j + 1) (by omega)).frame (fun k hk => ?_)
        show F4' (304 * j + k) = F4 (304 * (j + 1) + k)
        rw [g3 j k (by omega) hk, if_neg c]
theorem k_remember {K : Int} {A : Nat → sAcc} {P : sPar} {C : sCla} {D : sDeb} {J : sJou} {r t : xF32} {d g M1 M2 : Int32} {F4 : xF64} {F5 : Int32} (h : RH K A M1 M2 F4 F5) {f : xF64} (hX : RA K (P, C, D, J, r, t, d, g) f) {fu : Nat} (hfu : 2000 < fu) : ∃ A' M1' M2' F4' F5', f_X7_remember A P C D J r t d g M1 M2 = some (A', M1', M2') ∧ f_X8_keeps fu f F4 F5 = some (F4', F5') ∧ RH K A' M1' M2' F4' F5' ∧ A' 1 = A 1 := by
  obtain ⟨r', q, F4', h1, h2, h3, h4, h5, h6, h7⟩ := k_hist h hX hfu
  refine ⟨_, _, _, F4', _, ?_, h6, h7, upA_n (by omega)⟩
  rw [f_X7_remember, y_xk h3, h5, xb2_s, h4]
/-- everything, on both sides, after K commands -/
def RR (K : Int) (A : Nat → sAcc) (X : sAcc) (T0 : Int32) (T1 : xF32) (M0 M1 M2 M3 M4 : Int32) (F1 F2 F4 : xF64) (F5 F6 F7 : Int32) (F8 : xF32) (F9 F10 : Int32) : Prop := RA K X F1 ∧ RH K A M1 M2 F4 F5 ∧ ((M0 = 0 ∧ F6 = 0) ∨ (M0 = 1 ∧ F6 = 1 ∧ RA K (A 1) F2)) ∧ ((M3 = -1 ∧ F7 = 0) ∨ (M3 = F7 ∧ 1 ≤ M3.toInt ∧ M3.toInt ≤ 6)) ∧ M4 = F10 ∧ ∃ len, T0 = nI len ∧ F9 = nI len ∧ TX len T1 F8
theorem RR.mono {K L : Int} {A : Nat → sAcc} {X : sAcc} {T0 : Int32} {T1 : xF32} {M0 M1 M2 M3 M4 : Int32} {F1 F2 F4 : xF64} {F5 F6 F7 : Int32} {F8 : xF32} {F9 F10 : Int32} (h : RR K A X T0 T1 M0 M1 M2 M3 M4 F1 F2 F4 F5 F6 F7 F8 F9 F10) (hl : K ≤ L) : RR L A X T0 T1 M0 M1 M2 M3 M4 F1 F2 F4 F5 F6 F7 F8 F9 F10 := by
  obtain ⟨h1, h2, h3, h4⟩ := h
  refine ⟨h1.mono hl, h2.mono hl, ?_, h4⟩
  rcases h3 with h3 | ⟨a, b, c⟩
  · exact .inl h3
  · exact .inr ⟨a, b, c.mono hl⟩
-- an account with nothing in it
def yZr : xF32 := fun k => if k = 1 then 400 else if k = 2 then 600 else if k = 3 then 900 else 0
def yZt : xF32 := fun k => if k = 0 then 1000 else if k = 1 then 500 else if k = 2 then 250 else if k = 3 then 100 else 0
def ZS (s : xF64) : Prop := s 7 = 400 ∧ s 8 = 600 ∧ s 9 = 900 ∧ s 10 = 1000 ∧ s 11 = 500 ∧ s 12 = 250 ∧ s 13 = 100 ∧ ∀ k, k < 304 → (k < 7 ∨ 14 ≤ k) → s k = 0
theorem RA_zero {K : Int} (hK : 0 ≤ K) {X : sAcc} {s : xF64} (z : ZS s) (h1 : X.1.1 = 0) (h2 : X.2.1.1 = 0) (h3 : X.2.2.1.1 = 0) (h4 : X.2.2.2.1.1 = 0) (h5 : ∀ k, k < 4 → X.2.2.2.2.1 k = yZr k) (h6 : ∀ k, k < 4 → X.2.2.2.2.2.1 k = yZt k) (h7 : X.2.2.2.2.2.2.1 = 0) (h8 : X.2.2.2.2.2.2.2 = 0) : RA K X s := by
  obtain ⟨z1, z2, z3, z4, z5, z6, z7, z8⟩ := z
  have l0 : lN 0 = 0 := rfl
  refine ⟨0, 0, 0, 0, 0, 0, ⟨by omega, h1, by rw [z8 2 (by omega) (by omega)]; rfl, fun k hk => absurd hk (Nat.not_lt_zero k), fun k _ hk => ⟨z8 _ (by omega) (by omega), z8 _ (by omega) (by omega), z8 _ (by omega) (by omega), z8 _ (by omega) (by omega)⟩⟩, fun k hk => absurd hk (Nat.not_lt_zero k), ⟨by omega, h2, by rw [z8 3 (by omega) (by omega)]; rfl, fun k hk => absurd hk (Nat.not_lt_zero k), fun k _ hk => ⟨z8 _ (by omega) (by omega), z8 _ (by omega) (by omega), z8 _ (by omega) (by omega)⟩⟩, fun k hk => absurd hk (Nat.not_lt_zero k), ⟨by omega, h3, by rw [z8 4 (by omega) (by omega)]; rfl, fun k hk => absurd hk (Nat.not_lt_zero k)⟩, ⟨fun k hk => absurd hk (Nat.not_lt_zero k), fun i j _ hj => absurd hj (Nat.not_lt_zero j)⟩, fun k hk => absurd hk (Nat.not_lt_zero k), fun k hk => absurd hk (Nat.not_lt_zero k), ⟨by omega, h4, by rw [z8 5 (by omega) (by omega)]; rfl, fun k hk => absurd hk (Nat.not_lt_zero k)⟩, ⟨by omega, by omega, h7, h8, by rw [z8 0 (by omega) (by omega)]; rfl, by rw [z8 1 (by omega) (by omega)]; rfl, fun k hk => ?_⟩⟩
  rw [h5 k hk, h6 k hk]
  obtain rfl | rfl | rfl | rfl : k = 0 ∨ k = 1 ∨ k = 2 ∨ k = 3 := by omega
  · exact ⟨z8 6 (by omega) (by omega), z4, by decide, by decide, by decide, by decide⟩
  · exact ⟨z1, z5, by decide, by decide, by decide, by decide⟩
  · exact ⟨z2, z6, by decide, by decide, by decide, by decide⟩
  · exact ⟨z3, z7, by decide, by decide, by decide, by decide⟩
theorem k_empties {fu : Nat} (hfu : 400 < fu) (s : xF64) : ∃ s', f_X8_empties fu s = some s' ∧ ZS s' := by
  have cg : (304 : Int32) ≤ nI 304 := nI_le (a := 304) (b := 304) (by omega) (by omega)
  have i7 : xin 7 304 = true := by decide
  have i8 : xin 8 304 = true := by decide
  have i9 : xin 9 304 = true := by decide
  have i10 : xin 10 304 = true := by decide
  have i11 : xin 11 304 = true := by decide
  have i12 : xin 12 304 = true := by decide
  have i13 : xin 13 304 = true := by decide
  obtain ⟨t, h1, h2⟩ := ycpy (fun m i t => f_X8_empties_2 fu m i t) (fun _ => 0) 0 304 (fun t => some (vp_updL (vp_updL (vp_updL (vp_updL (vp_updL (vp_updL (vp_updL t 7 400) 8 600) 9 900) 10 1000) 11 500) 12 250) 13 100)) (fun m t => by
    show f_X8_empties_2 fu (m + 1) (nI 304) t = _
    rw [f_X8_empties_2, if_pos cg, y_xk i7, y_xk i8, y_xk i9, y_xk i10, y_xk i11, y_xk i12, y_xk i13]
    rfl) (fun m i t hi => by
    have cn : ¬ (304 : Int32) ≤ nI i := nI_ge (a := i) (b := 304) hi (by omega)
    show f_X8_empties_2 fu (m + 1) (nI i) t = f_X8_empties_2 fu m (nI (i + 1)) (vp_updL t (0 + i) 0)
    rw [f_X8_empties_2, if_neg cn, y_xk (y_in hi (by omega)), y_cl (by omega), nI_1, Nat.zero_add]) 304 0 fu s (by omega) (by omega)
  refine ⟨_, h1, ?_⟩
  have hz : ∀ k, k < 304 → t k = 0 := fun k hk => by rw [h2 k, if_pos (by omega)]
  refine ⟨?_, ?_, ?_, ?_, ?_, ?_, ?_, fun k hk hk2 => ?_⟩
  · simp (disch := omega) only [y_un, y_us]
  · simp (disch := omega) only [y_un, y_us]
  · simp (disch := omega) only [y_un, y_us]
  · simp (disch := omega) only [y_un, y_us]
  · simp (disch := omega) only [y_un, y_us]
  · simp (disch := omega) only [y_un, y_us]
  · simp (disch := omega) only [y_us]
  · rw [y_un (by omega), y_un (by omega), y_un (by omega), y_un (by omega), y_un (by omega), y_un (by omega), y_un (by omega)]
    exact hz k hk
