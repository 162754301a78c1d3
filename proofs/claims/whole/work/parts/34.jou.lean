-- loops that shift, and loops that copy
theorem yshl {β : Type} (F : Nat → Int32 → xF64 → Option β) (b d e lo : Nat) (hd : 0 < d) (Inv : xF64 → Prop) (G : xF64 → Option β) (hinv : ∀ s i v, Inv s → lo ≤ i → i < e → Inv (vp_updL s (b + i) v)) (hend : ∀ m s, Inv s → F (m + 1) (nI e) s = G s) (hstep : ∀ m i s, Inv s → lo ≤ i → i < e → F (m + 1) (nI i) s = F m (nI (i + 1)) (vp_updL s (b + i) (s (b + i + d)))) : ∀ j i m s, lo ≤ i → i + j = e → j < m → Inv s → ∃ s', F m (nI i) s = G s' ∧ Inv s' ∧ ∀ k, s' k = if b + i ≤ k ∧ k < b + e then s (k + d) else s k := by
  intro j
  induction j with
  | zero =>
    intro i m s hlo hi hm hs
    obtain ⟨m, rfl⟩ : ∃ m', m = m' + 1 := ⟨m - 1, by omega⟩
    have hi' : i = e := by omega
    subst hi'
    refine ⟨s, hend m s hs, hs, fun k => ?_⟩
    rw [if_neg (by omega)]
  | succ j ih =>
    intro i m s hlo hi hm hs
    obtain ⟨m, rfl⟩ : ∃ m', m = m' + 1 := ⟨m - 1, by omega⟩
    obtain ⟨s', h1, h2, h3⟩ := ih (i + 1) m (vp_updL s (b + i) (s (b + i + d))) (by omega) (by omega) (by omega) (hinv s i _ hs hlo (by omega))
    refine ⟨s', by rw [hstep m i s hs hlo (by omega)]; exact h1, h2, fun k => ?_⟩
    rw [h3 k]
    by_cases c1 : b + (i + 1) ≤ k ∧ k < b + e
    · rw [if_pos c1, if_pos (by omega), y_un (by omega)]
    · rw [if_neg c1]
      by_cases c2 : k = b + i
      · subst c2
        rw [y_us, if_pos (by omega)]
      · rw [y_un c2, if_neg (by omega)]
theorem ycpy {β : Type} (F : Nat → Int32 → xF64 → Option β) (g : Nat → Int64) (b e : Nat) (G : xF64 → Option β) (hend : ∀ m t, F (m + 1) (nI e) t = G t) (hstep : ∀ m i t, i < e → F (m + 1) (nI i) t = F m (nI (i + 1)) (vp_updL t (b + i) (g i))) : ∀ j i m t, i + j = e → j < m → ∃ t', F m (nI i) t = G t' ∧ ∀ k, t' k = if b + i ≤ k ∧ k < b + e then g (k - b) else t k := by
  intro j
  induction j with
  | zero =>
    intro i m t hi hm
    obtain ⟨m, rfl⟩ : ∃ m', m = m' + 1 := ⟨m - 1, by omega⟩
    have hi' : i = e := by omega
    subst hi'
    refine ⟨t, hend m t, fun k => ?_⟩
    rw [if_neg (by omega)]
  | succ j ih =>
    intro i m t hi hm
    obtain ⟨m, rfl⟩ : ∃ m', m = m' + 1 := ⟨m - 1, by omega⟩
    obtain ⟨t', h1, h3⟩ := ih (i + 1) m (vp_updL t (b + i) (g i)) (by omega) (by omega)
    refine ⟨t', by rw [hstep m i t (by omega)]; exact h1, fun k => ?_⟩
    rw [h3 k]
    by_cases c1 : b + (i + 1) ≤ k ∧ k < b + e
    · rw [if_pos c1, if_pos (by omega)]
    · rw [if_neg c1]
      by_cases c2 : k = b + i
      · subst c2
        rw [y_us, if_pos (by omega), Nat.add_sub_cancel_left]
      · rw [y_un c2, if_neg (by omega)]
-- the journal
theorem j_forget {fu : Nat} : ∀ j i m (J : sJou), i + j = 15 → j < m → J.1 = nI 15 → ∃ J', f_X3_forgetOldest_8 fu m (nI i) J = some J' ∧ J'.1 = nI 15 ∧ ∀ k, (J'.2.1 k = if i ≤ k ∧ k < 15 then J.2.1 (k + 1) else J.2.1 k) ∧ (J'.2.2 k = if i ≤ k ∧ k < 15 then J.2.2 (k + 1) else J.2.2 k) := by
  intro j
  induction j with
  | zero =>
    intro i m J hi hm hJ
    obtain ⟨m, rfl⟩ : ∃ m', m = m' + 1 := ⟨m - 1, by omega⟩
    have hi' : i = 15 := by omega
    subst hi'
    refine ⟨J, ?_, hJ, fun k => ?_⟩
    · simp (disch := omega) only [f_X3_forgetOldest_8, hJ, y_self, if_true]
    · rw [if_neg (by omega), if_neg (by omega)]
      exact ⟨rfl, rfl⟩
  | succ j ih =>
    intro i m J hi hm hJ
    obtain ⟨m, rfl⟩ : ∃ m', m = m' + 1 := ⟨m - 1, by omega⟩
    obtain ⟨J', h1, h2, h3⟩ := ih (i + 1) m (nI 15, upd J.2.1 i (J.2.1 (i + 1)), vp_updL J.2.2 i (J.2.2 (i + 1))) (by omega) (by omega) rfl
    refine ⟨J', ?_, h2, fun k => ?_⟩
    · rw [← h1]
      simp (disch := omega) only [f_X3_forgetOldest_8, hJ, y_nge, if_false, y_in, xk_t, y_cl, nI_1]
    · obtain ⟨g1, g2⟩ := h3 k
      rw [g1, g2]
      by_cases c1 : i + 1 ≤ k ∧ k < 15
      · rw [if_pos c1, if_pos c1, if_pos (by omega), if_pos (by omega)]
        simp (disch := omega) only [pk_un, y_un]
        exact ⟨trivial, trivial⟩
      · rw [if_neg c1, if_neg c1]
        by_cases c2 : k = i
        · subst c2
          rw [if_pos (by omega), if_pos (by omega)]
          exact ⟨pk_us, pk_uLs⟩
        · rw [if_neg (by omega), if_neg (by omega)]
          exact ⟨pk_un c2, pk_uLn c2⟩
theorem j_add {n : Nat} {J : sJou} {s : xF64} (h : RJ n J s) {fu : Nat} (hfu : 40 < fu) (x1 : Int32) (x2 : Int64) : ∃ n' J' s', f_X3_addOne fu x1 x2 J = some J' ∧ f_X8_notes fu x1 x2 s = some s' ∧ RJ n' J' s' ∧ ∀ k, k ≠ 5 → ¬ (272 ≤ k ∧ k < 304) → s' k = s k := by
  obtain ⟨hn, h2, h3, h4⟩ := h
  by_cases hc : n < 16
  · have hlt : nI n < 16 := nI_lt hc (by decide)
    have hne : (nI n = 16) = False := eq_false (fun q => by
      have := (nI_eq (a := n) (b := 16) (by omega) (by omega)).mp q
      omega)
    have e1 : 272 + 2 * (n + 1) - 2 = 272 + 2 * n := by omega
    have e2 : 272 + 2 * (n + 1) - 1 = 272 + 2 * n + 1 := by omega
    refine ⟨n + 1, (nI (n + 1), upd J.2.1 n x1, vp_updL J.2.2 n x2), vp_updL (vp_updL (vp_updL s 5 (lN (n + 1))) (272 + 2 * n) x1.toInt64) (272 + 2 * n + 1) x2, ?_, ?_, ⟨by omega, rfl, ?_, fun k hk => ?_⟩, fun k hk hk2 => ?_⟩
    · simp (disch := omega) only [f_X3_addOne, h2, hlt, if_true, y_in, xk_t, y_cl, nI_1]
    · simp (disch := omega) only [f_X8_notes, q1, q2, q5, q272, h3, lN_i, y_in, xk_t, y_cl, hne, if_false, nI_add, pk_mul, pk_sub, e1, e2, nI_l]
    · rw [y_un (by omega), y_un (by omega), y_us]
    · by_cases e : k = n
      · subst e
        simp (disch := omega) only [y_un, y_us, pk_us]
        exact ⟨trivial, trivial⟩
      · simp (disch := omega) only [y_un, pk_un]
        exact h4 k (by omega)
    · rw [y_un (by omega), y_un (by omega), y_un (by omega)]
  · have hn16 : n = 16 := by omega
    subst hn16
    have hlt : (nI 16 < 16) = False := eq_false (nI_nlt (a := 16) (b := 16) (by omega) (by omega))
    obtain ⟨J', g1, g2, g3⟩ := j_forget (fu := fu) 15 0 fu (nI 15, J.2.1, J.2.2) (by omega) (by omega) rfl
    obtain ⟨s', k1, -, k3⟩ := yshl (fun m i s => f_X8_notes_19 fu m x1 x2 (nI 16) i s) 272 2 30 0 (by omega) (fun _ => True) (fun t => some (vp_updL (vp_updL (vp_updL t 5 (lN 16)) (272 + 30) x1.toInt64) (272 + 31) x2)) (fun _ _ _ _ _ _ => trivial) (by
      intro m s _
      have e1 : 272 + 2 * 16 - 2 = 272 + 30 := by omega
      have e2 : 272 + 2 * 16 - 1 = 272 + 31 := by omega
      simp (disch := omega) only [f_X8_notes_19, q1, q2, q5, q272, pk_mul, pk_sub, y_le_t, if_true, nI_add, y_in, xk_t, y_cl, nI_l, e1, e2]) (by
      intro m i s _ _ hi
      simp (disch := omega) only [f_X8_notes_19, q1, q2, q272, pk_mul, pk_sub, y_nge, if_false, nI_add, y_in, xk_t, y_cl]) 30 0 fu s (by omega) (by omega) (by omega) trivial
    have hx0 : nI 0 = 0 := rfl
    refine ⟨16, (nI 16, upd J'.2.1 15 x1, vp_updL J'.2.2 15 x2), vp_updL (vp_updL (vp_updL s' 5 (lN 16)) (272 + 30) x1.toInt64) (272 + 31) x2, ?_, ?_, ⟨by omega, rfl, ?_, fun k hk => ?_⟩, fun k hk hk2 => ?_⟩
    · have e0 : f_X3_forgetOldest fu J = some J' := g1
      simp (disch := omega) only [f_X3_addOne, h2, hlt, if_false, e0, xb1_s, g2, y_in, xk_t, y_cl, nI_1]
    · rw [← k1]
      simp (disch := omega) only [f_X8_notes, q5, q16, h3, lN_i, y_in, xk_t, y_cl, if_true]
      rfl
    · rw [y_un (by omega), y_un (by omega), y_us]
    · by_cases e : k = 15
      · subst e
        simp (disch := omega) only [y_un, y_us, pk_us]
        exact ⟨trivial, trivial⟩
      · obtain ⟨m1, m2⟩ := g3 k
        have r1 : s' (272 + 2 * k) = s (272 + 2 * (k + 1)) := by
          rw [k3, if_pos (by omega), show 272 + 2 * k + 2 = 272 + 2 * (k + 1) by omega]
        have r2 : s' (272 + 2 * k + 1) = s (272 + 2 * (k + 1) + 1) := by
          rw [k3, if_pos (by omega), show 272 + 2 * k + 1 + 2 = 272 + 2 * (k + 1) + 1 by omega]
        simp (disch := omega) only [y_un, pk_un, r1, r2]
        rw [m1, m2, if_pos (by omega), if_pos (by omega)]
        exact h4 (k + 1) (by omega)
    · rw [y_un (by omega), y_un (by omega), y_un (by omega), k3, if_neg (by omega)]
