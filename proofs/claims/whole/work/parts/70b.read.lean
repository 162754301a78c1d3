-- all commands of a text
theorem rd_loop {K : Int} (hK0 : 0 ≤ K) (hK : K ≤ 17885) {r t : xF32} {fu c : Nat} (hfu : 1200 < fu) (hc : c ≤ 35) {T5 T6 T7 T8 F16 F17 : xF32} (hT : ∀ j, j < c → TE j T5 T6 T7 T8 F16 F17 ∧ TKs (T5 j)) (F3 F4 : xF64) (F5 F7 F9 F10 F13 F14 F15 : Int32) (F8 : xF32) : ∀ l j m m' (P : sPar) (C : sCla) (D : sDeb) (J : sJou) (d g : Int32) (s : xF64) (z : Int64), j + l = c → l < m → l < m' → RA (K + j) (P, C, D, J, r, t, d, g) s → (∃ P' C' D' J' d' g' s' z', f_X7_performAll_2 fu r (nI c) T5 T6 T7 T8 m (nI j) P C D J d g = some (0, P', C', D', J', d', g') ∧ f_X8_read_32 fu F8 m' (nI j) 0 s F3 F4 F5 F7 F9 F10 z F13 F14 F15 F16 F17 (nI c) = (xb2 (f_X8_keeps fu F3 F4 F5) fun a b => some (nI c, 0, s', F3, a, b, F7, F9, F10, z', F13, F14, F15, F16, F17, nI c)) ∧ RA (K + 35) (P', C', D', J', r, t, d', g') s') ∨ (∃ v oc F7' P' C' D' J' d' g' s' z', f_X7_performAll_2 fu r (nI c) T5 T6 T7 T8 m (nI j) P C D J d g = some (v, P', C', D', J', d', g') ∧ DG v oc F7 F7' ∧ f_X8_read_32 fu F8 m' (nI j) 0 s F3 F4 F5 F7 F9 F10 z F13 F14 F15 F16 F17 (nI c) = f_X8_read_50 fu F8 fu 0 0 s' F3 F4 F5 F7' F9 F10 z' F13 F14 F15 F16 F17 (nI c)) := by
  intro l
  induction l with
  | zero =>
    intro j m m' P C D J d g s z hj hm hm' h
    obtain ⟨m, rfl⟩ : ∃ m1, m = m1 + 1 := ⟨m - 1, by omega⟩
    obtain ⟨m', rfl⟩ : ∃ m1, m' = m1 + 1 := ⟨m' - 1, by omega⟩
    have hjc : j = c := by omega
    subst hjc
    have cg : nI j ≤ nI j := y_self (by omega)
    exact .inl ⟨P, C, D, J, d, g, s, z, by rw [f_X7_performAll_2, if_pos cg], by rw [f_X8_read_32, if_pos cg], h.mono (by omega)⟩
  | succ l ih =>
    intro j m m' P C D J d g s z hj hm hm' h
    obtain ⟨m, rfl⟩ : ∃ m1, m = m1 + 1 := ⟨m - 1, by omega⟩
    obtain ⟨m', rfl⟩ : ∃ m1, m' = m1 + 1 := ⟨m' - 1, by omega⟩
    have cg : ¬ nI c ≤ nI j := nI_ge (by omega) (by omega)
    obtain ⟨fc, oc, s', F7', z', k1, k2, k3⟩ := rd_step (by omega) (by omega) h hfu (j := j) (by omega) (hT j (by omega)).1 (hT j (by omega)).2 F7 z
    rcases k3 with hG | ⟨rfl, rfl, rfl, P', C', D', J', d', g', k4, k5⟩
    · exact .inr ⟨fc, oc, F7', P, C, D, J, d, g, s', z', by rw [f_X7_performAll_2, if_neg cg, k1, xb1_s, if_neg hG.1], hG, by rw [f_X8_read_32, if_neg cg, k2, xb4_s, if_neg hG.2.1]⟩
    · have z0 : (0 : Int32) ≤ 0 := by decide
      have e1 : f_X7_performAll_2 fu r (nI c) T5 T6 T7 T8 (m + 1) (nI j) P C D J d g = f_X7_performAll_2 fu r (nI c) T5 T6 T7 T8 m (nI (j + 1)) P' C' D' J' d' g' := by
        rw [f_X7_performAll_2, if_neg cg, k1, xb1_s, if_pos rfl, k4, xb6_s, nI_1]
      have e2 : f_X8_read_32 fu F8 (m' + 1) (nI j) 0 s F3 F4 F5 F7' F9 F10 z F13 F14 F15 F16 F17 (nI c) = f_X8_read_32 fu F8 m' (nI (j + 1)) 0 s' F3 F4 F5 F7' F9 F10 z' F13 F14 F15 F16 F17 (nI c) := by
        rw [f_X8_read_32, if_neg cg, k2, xb4_s, if_pos z0, nI_1]
      rw [e1, e2]
      exact ih (j + 1) m m' P' C' D' J' d' g' s' z' (by omega) (by omega) (by omega) (k5.mono (by omega))
theorem rd_back {fu c : Nat} (hfu : 400 < fu) (s F3 F4 : xF64) (F5 F7 F9 F10 F13 F14 F15 F18 : Int32) (F8 F16 F17 : xF32) (z : Int64) : ∃ s', f_X8_read_50 fu F8 fu 0 0 s F3 F4 F5 F7 F9 F10 z F13 F14 F15 F16 F17 F18 = some (0, 2, s', F3, F4, F5, F7, F9, F10, z, F13, F14, F15, F16, F17, F18) ∧ ∀ k, k < 304 → s' k = F3 k := by
  obtain ⟨F1', k1, k2⟩ := ycpy (fun m i t => f_X8_read_50 fu F8 m i 0 t F3 F4 F5 F7 F9 F10 z F13 F14 F15 F16 F17 F18) (fun k => F3 k) 0 304 (fun t => some (0, 2, t, F3, F4, F5, F7, F9, F10, z, F13, F14, F15, F16, F17, F18)) (fun m t => by
    have cg : (304 : Int32) ≤ nI 304 := nI_le (a := 304) (b := 304) (by omega) (by omega)
    show f_X8_read_50 fu F8 (m + 1) (nI 304) 0 t F3 F4 F5 F7 F9 F10 z F13 F14 F15 F16 F17 F18 = _
    rw [f_X8_read_50, if_pos cg, f_X8_fails, xb2_s]) (fun m i t hi => by
    have cn : ¬ (304 : Int32) ≤ nI i := nI_ge (a := i) (b := 304) hi (by omega)
    show f_X8_read_50 fu F8 (m + 1) (nI i) 0 t F3 F4 F5 F7 F9 F10 z F13 F14 F15 F16 F17 F18 = f_X8_read_50 fu F8 m (nI (i + 1)) 0 (vp_updL t (0 + i) (F3 i)) F3 F4 F5 F7 F9 F10 z F13 F14 F15 F16 F17 F18
    rw [f_X8_read_50, if_neg cn, y_xk (y_in hi (by omega)), y_xk (y_in hi (by omega)), y_cl (by omega), nI_1, Nat.zero_add]) 304 0 fu s (by omega) (by omega)
  exact ⟨F1', k1, fun k hk => by rw [k2 k, if_pos (by omega)]; rfl⟩
