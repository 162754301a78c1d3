-- a text is read
def DG (fc oc F7 F7' : Int32) : Prop := ¬ fc = 0 ∧ ¬ oc ≤ 0 ∧ ((1 ≤ fc.toInt ∧ fc.toInt ≤ 6 ∧ F7' = fc) ∨ (6 < fc ∧ F7' = F7))
theorem rd_step {K : Int} (hK0 : 0 ≤ K) (hK : K ≤ 17920) {P : sPar} {C : sCla} {D : sDeb} {J : sJou} {r t : xF32} {d g : Int32} {s : xF64} (h : RA K (P, C, D, J, r, t, d, g) s) {fu : Nat} (hfu : 1200 < fu) {j : Nat} (hj : j < 35) {T5 T6 T7 T8 F16 F17 : xF32} (hT : TE j T5 T6 T7 T8 F16 F17) (hk : TKs (T5 j)) (F7 : Int32) (z : Int64) : ∃ fc oc s' F7' z', f_X7_faultOfCommand fu (nI j) P C D d g T5 T6 T7 T8 = some fc ∧ f_X8_does fu (nI j) s F7 z F16 F17 = some (oc, s', F7', z') ∧ (DG fc oc F7 F7' ∨ (fc = 0 ∧ oc = 0 ∧ F7' = F7 ∧ ∃ P' C' D' J' d' g', f_X7_perform fu (nI j) P C D J r d g T5 T6 T7 T8 = some (P', C', D', J', d', g') ∧ RA (K + 1) (P', C', D', J', r, t, d', g') s')) := by
  obtain ⟨t5, t6, t7, t8⟩ := hT
  have x35 : xin (nI j) 35 = true := y_in hj (by omega)
  have x36 : xin (nI j) 36 = true := y_in (by omega) (by omega)
  have yj : (nI j).toNatClampNeg = j := y_cl (by omega)
  have a0 : 3 * nI j = nI (3 * j) := by rw [q3, pk_mul]
  have a1 : nI (3 * j) + 1 = nI (3 * j + 1) := nI_1 _
  have a2 : nI (3 * j) + 2 = nI (3 * j + 2) := nI_add _ 2
  have b0 : xin (nI (3 * j)) 108 = true := y_in (by omega) (by omega)
  have b1 : xin (nI (3 * j + 1)) 108 = true := y_in (by omega) (by omega)
  have b2 : xin (nI (3 * j + 2)) 108 = true := y_in (by omega) (by omega)
  have c0 : (nI (3 * j)).toNatClampNeg = 3 * j := y_cl (by omega)
  have c1 : (nI (3 * j + 1)).toNatClampNeg = 3 * j + 1 := y_cl (by omega)
  have c2 : (nI (3 * j + 2)).toNatClampNeg = 3 * j + 2 := y_cl (by omega)
  have D1 : ∀ fc oc : Int32, (fc = 7 ∨ fc = 8 ∨ fc = 9) → (oc = 1 ∨ oc = 2 ∨ oc = 3) → ∀ a : Int32, DG fc oc a a := fun fc oc q1 q2 a => by
    rcases q1 with rfl | rfl | rfl <;> rcases q2 with rfl | rfl | rfl <;> exact ⟨by decide, by decide, .inr ⟨by decide, rfl⟩⟩
  have D2 : ∀ fc : Int32, (fc = 1 ∨ fc = 2 ∨ fc = 3 ∨ fc = 4) → ∀ a : Int32, DG fc 9 a fc := fun fc q1 a => by
    rcases q1 with rfl | rfl | rfl | rfl <;> exact ⟨by decide, by decide, .inl ⟨by decide, by decide, rfl⟩⟩
  have hF : ∀ x, f_X8_does fu (nI j) s F7 z F16 F17 = x ↔ (if F16 j = 97 then (xb4 (f_X8_deciding fu 1 (F17 (3 * j)) (F17 (3 * j + 2)) s F7 z) fun v6 a b c => (some (v6, a, b, c))) else if F16 j = 99 then (xb3 (f_X8_claiming (F17 (3 * j)) (F17 (3 * j + 1)) (F17 (3 * j + 2)) s z) fun v a c => some (v, a, F7, c)) else if F16 j = 100 then (xb4 (f_X8_deciding fu 2 (F17 (3 * j)) (F17 (3 * j + 2)) s F7 z) fun v6 a b c => (some (v6, a, b, c))) else if F16 j = 110 then (xb3 (f_X8_passing fu (F17 (3 * j)) s z) fun v a c => some (v, a, F7, c)) else if F16 j = 112 then (xb3 (f_X8_paying fu (F17 (3 * j)) (F17 (3 * j + 2)) s z) fun v a c => some (v, a, F7, c)) else if F16 j = 115 then (xb4 (f_X8_settling fu (F17 (3 * j)) (F17 (3 * j + 1)) (F17 (3 * j + 2)) s F7 z) fun v6 a b c => (some (v6, a, b, c))) else if F16 j = 119 then (xb4 (f_X8_deciding fu 3 (F17 (3 * j)) (F17 (3 * j + 2)) s F7 z) fun v6 a b c => (some (v6, a, b, c))) else (xb3 (f_X8_goingOn s z) fun v a c => some (v, a, F7, c))) = x := fun x => by
    rw [f_X8_does, a0, a1, a2, y_xk b0, y_xk b1, y_xk b2, y_xk x36, yj, c0, c1, c2]
  rcases hk with e | e | e | e | e | e | e | e
  · have eF : F16 j = 97 := by rw [← t5]; exact e
    have u6 := t6 (by rw [e]; decide)
    have u8 := t8 (by rw [e]; decide) (by rw [e]; decide)
    obtain ⟨fc, oc, s', F7', z', k1, k2, k3⟩ := m_award hK0 hK h (fu := fu) (by omega) (F17 (3 * j)) (F17 (3 * j + 2)) F7 z
    refine ⟨fc, oc, s', F7', z', ?_, ?_, ?_⟩
    · rw [f_X7_faultOfCommand, y_xk x35, y_xk x35, y_xk x35, y_xk x35, yj, e, if_pos rfl, u6, u8, k1, xb1_s]
    · rw [hF, eF, if_pos rfl, k2, xb4_s]
    · rcases k3 with ⟨rfl, rfl, -, q2⟩ | ⟨rfl, rfl, -, q2⟩ | ⟨q0, rfl, -, q2⟩ | ⟨rfl, rfl, q2, C', D', J', L, c4, c5, c6, -⟩
      · rw [q2]; exact .inl (D1 _ _ (.inl rfl) (.inl rfl) _)
      · rw [q2]; exact .inl (D1 _ _ (.inr (.inl rfl)) (.inr (.inl rfl)) _)
      · rw [q2]; exact .inl (D2 _ (q0.elim .inl (fun q => .inr (.inr (.inl q)))) _)
      · refine .inr ⟨rfl, rfl, q2, P, C', D', J', d, g, ?_, c5⟩
        rw [f_X7_perform, y_xk x35, y_xk x35, y_xk x35, y_xk x35, yj, e, if_pos rfl, u6, u8, c4, xb3_s]
  · have eF : F16 j = 99 := by rw [← t5]; exact e
    have n97 : ¬ (99 : Int32) = 97 := by decide
    have u6 := t6 (by rw [e]; decide)
    have u7 := t7 (by rw [e]; decide)
    have u8 := t8 (by rw [e]; decide) (by rw [e]; decide)
    obtain ⟨fc, oc, s', z', k1, k2, k3⟩ := m_claim h (F17 (3 * j)) (F17 (3 * j + 1)) (F17 (3 * j + 2)) z
    refine ⟨fc, oc, s', F7, z', ?_, ?_, ?_⟩
    · rw [f_X7_faultOfCommand, y_xk x35, y_xk x35, y_xk x35, y_xk x35, yj, e, if_neg n97, if_pos rfl, u6, u7, u8, k1, xb1_s]
    · rw [hF, eF, if_neg n97, if_pos rfl, k2, xb3_s]
    · rcases k3 with ⟨rfl, rfl, -⟩ | ⟨rfl, rfl, -⟩ | ⟨rfl, rfl, -⟩ | ⟨rfl, rfl, v, C', c4, c5, -⟩
      · exact .inl (D1 _ _ (.inl rfl) (.inl rfl) _)
      · exact .inl (D1 _ _ (.inr (.inl rfl)) (.inr (.inl rfl)) _)
      · exact .inl (D1 _ _ (.inr (.inr rfl)) (.inr (.inr rfl)) _)
      · refine .inr ⟨rfl, rfl, rfl, P, C', D, J, d, g, ?_, (c5.mono (by omega))⟩
        rw [f_X7_perform, y_xk x35, y_xk x35, y_xk x35, y_xk x35, yj, e, if_neg n97, if_pos rfl, u6, u7, u8, c4, xb2_s]
  · have eF : F16 j = 100 := by rw [← t5]; exact e
    have n97 : ¬ (100 : Int32) = 97 := by decide
    have n99 : ¬ (100 : Int32) = 99 := by decide
    have u6 := t6 (by rw [e]; decide)
    have u8 := t8 (by rw [e]; decide) (by rw [e]; decide)
    obtain ⟨fc, oc, s', F7', z', k1, k2, k3⟩ := m_dismiss hK0 hK h (fu := fu) (by omega) (F17 (3 * j)) (F17 (3 * j + 2)) F7 z
    refine ⟨fc, oc, s', F7', z', ?_, ?_, ?_⟩
    · rw [f_X7_faultOfCommand, y_xk x35, y_xk x35, y_xk x35, y_xk x35, yj, e, if_neg n97, if_neg n99, if_pos rfl, u6, u8, k1, xb1_s]
    · rw [hF, eF, if_neg n97, if_neg n99, if_pos rfl, k2, xb4_s]
    · rcases k3 with ⟨rfl, rfl, -, q2⟩ | ⟨rfl, rfl, -, q2⟩ | ⟨q0, rfl, -, q2⟩ | ⟨rfl, rfl, q2, C', J', L, c4, c5, c6, -⟩
      · rw [q2]; exact .inl (D1 _ _ (.inl rfl) (.inl rfl) _)
      · rw [q2]; exact .inl (D1 _ _ (.inr (.inl rfl)) (.inr (.inl rfl)) _)
      · rw [q2]; exact .inl (D2 _ (q0.elim .inl (fun q => .inr (.inr (.inl q)))) _)
      · refine .inr ⟨rfl, rfl, q2, P, C', D, J', d, g, ?_, c5⟩
        rw [f_X7_perform, y_xk x35, y_xk x35, y_xk x35, y_xk x35, yj, e, if_neg n97, if_neg n99, if_pos rfl, u6, u8, c4, xb2_s]
  · have eF : F16 j = 103 := by rw [← t5]; exact e
    have n97 : ¬ (103 : Int32) = 97 := by decide
    have n99 : ¬ (103 : Int32) = 99 := by decide
    have n100 : ¬ (103 : Int32) = 100 := by decide
    have n110 : ¬ (103 : Int32) = 110 := by decide
    have n112 : ¬ (103 : Int32) = 112 := by decide
    have n115 : ¬ (103 : Int32) = 115 := by decide
    have n119 : ¬ (103 : Int32) = 119 := by decide
    obtain ⟨fc, oc, s', z', k1, k2, k3⟩ := m_goOn h z
    refine ⟨fc, oc, s', F7, z', ?_, ?_, ?_⟩
    · rw [f_X7_faultOfCommand, y_xk x35, y_xk x35, y_xk x35, y_xk x35, yj, e, if_neg n97, if_neg n99, if_neg n100, if_neg n110, if_neg n112, if_neg n115, if_neg n119, k1, xb1_s]
    · rw [hF, eF, if_neg n97, if_neg n99, if_neg n100, if_neg n110, if_neg n112, if_neg n115, if_neg n119, k2, xb3_s]
    · rcases k3 with ⟨rfl, rfl, -⟩ | ⟨rfl, rfl, g', c4, c5, -⟩
      · exact .inl (D1 _ _ (.inr (.inr rfl)) (.inl rfl) _)
      · refine .inr ⟨rfl, rfl, rfl, P, C, D, J, d, g', ?_, (c5.mono (by omega))⟩
        rw [f_X7_perform, y_xk x35, y_xk x35, y_xk x35, y_xk x35, yj, e, if_neg n97, if_neg n99, if_neg n100, if_neg n110, if_neg n112, if_neg n115, if_neg n119, c4, xb1_s]
  · have eF : F16 j = 110 := by rw [← t5]; exact e
    have n97 : ¬ (110 : Int32) = 97 := by decide
    have n99 : ¬ (110 : Int32) = 99 := by decide
    have n100 : ¬ (110 : Int32) = 100 := by decide
    have u6 := t6 (by rw [e]; decide)
    obtain ⟨fc, oc, s', z', k1, k2, k3⟩ := m_pass hK0 hK h (fu := fu) hfu (F17 (3 * j)) z
    refine ⟨fc, oc, s', F7, z', ?_, ?_, ?_⟩
    · rw [f_X7_faultOfCommand, y_xk x35, y_xk x35, y_xk x35, y_xk x35, yj, e, if_neg n97, if_neg n99, if_neg n100, if_pos rfl, u6, k1, xb1_s]
    · rw [hF, eF, if_neg n97, if_neg n99, if_neg n100, if_pos rfl, k2, xb3_s]
    · rcases k3 with ⟨rfl, rfl, -⟩ | ⟨rfl, rfl, -⟩ | ⟨rfl, rfl, D', d', c4, c5⟩
      · exact .inl (D1 _ _ (.inr (.inl rfl)) (.inl rfl) _)
      · exact .inl (D1 _ _ (.inr (.inr rfl)) (.inr (.inl rfl)) _)
      · refine .inr ⟨rfl, rfl, rfl, P, C, D', J, d', g, ?_, c5⟩
        rw [f_X7_perform, y_xk x35, y_xk x35, y_xk x35, y_xk x35, yj, e, if_neg n97, if_neg n99, if_neg n100, if_pos rfl, u6, c4, xb3_s]
  · have eF : F16 j = 112 := by rw [← t5]; exact e
    have n97 : ¬ (112 : Int32) = 97 := by decide
    have n99 : ¬ (112 : Int32) = 99 := by decide
    have n100 : ¬ (112 : Int32) = 100 := by decide
    have n110 : ¬ (112 : Int32) = 110 := by decide
    have u6 := t6 (by rw [e]; decide)
    have u8 := t8 (by rw [e]; decide) (by rw [e]; decide)
    obtain ⟨fc, oc, s', z', k1, k2, k3⟩ := m_pay hK0 hK h (fu := fu) (by omega) (F17 (3 * j)) (F17 (3 * j + 2)) z
    refine ⟨fc, oc, s', F7, z', ?_, ?_, ?_⟩
    · rw [f_X7_faultOfCommand, y_xk x35, y_xk x35, y_xk x35, y_xk x35, yj, e, if_neg n97, if_neg n99, if_neg n100, if_neg n110, if_pos rfl, u6, u8, k1, xb1_s]
    · rw [hF, eF, if_neg n97, if_neg n99, if_neg n100, if_neg n110, if_pos rfl, k2, xb3_s]
    · rcases k3 with ⟨rfl, rfl, -⟩ | ⟨rfl, rfl, -⟩ | ⟨rfl, rfl, P', J', c4, c5, c6⟩
      · exact .inl (D1 _ _ (.inl rfl) (.inl rfl) _)
      · exact .inl (D1 _ _ (.inr (.inl rfl)) (.inr (.inl rfl)) _)
      · refine .inr ⟨rfl, rfl, rfl, P', C, D, J', d, g, ?_, c5⟩
        rw [f_X7_perform, y_xk x35, y_xk x35, y_xk x35, y_xk x35, yj, e, if_neg n97, if_neg n99, if_neg n100, if_neg n110, if_pos rfl, u6, u8, c4, xb2_s]
  · have eF : F16 j = 115 := by rw [← t5]; exact e
    have n97 : ¬ (115 : Int32) = 97 := by decide
    have n99 : ¬ (115 : Int32) = 99 := by decide
    have n100 : ¬ (115 : Int32) = 100 := by decide
    have n110 : ¬ (115 : Int32) = 110 := by decide
    have n112 : ¬ (115 : Int32) = 112 := by decide
    have u6 := t6 (by rw [e]; decide)
    have u7 := t7 (by rw [e]; decide)
    have u8 := t8 (by rw [e]; decide) (by rw [e]; decide)
    obtain ⟨fc, oc, s', F7', z', k1, k2, k3⟩ := m_settle hK0 hK h (fu := fu) (by omega) (F17 (3 * j)) (F17 (3 * j + 1)) (F17 (3 * j + 2)) F7 z
    refine ⟨fc, oc, s', F7', z', ?_, ?_, ?_⟩
    · rw [f_X7_faultOfCommand, y_xk x35, y_xk x35, y_xk x35, y_xk x35, yj, e, if_neg n97, if_neg n99, if_neg n100, if_neg n110, if_neg n112, if_pos rfl, u6, u7, u8, k1, xb1_s]
    · rw [hF, eF, if_neg n97, if_neg n99, if_neg n100, if_neg n110, if_neg n112, if_pos rfl, k2, xb4_s]
    · rcases k3 with ⟨rfl, rfl, -, q2⟩ | ⟨rfl, rfl, -, q2⟩ | ⟨q0, rfl, -, q2⟩ | ⟨rfl, rfl, q2, D', J', c4, c5, c6⟩
      · rw [q2]; exact .inl (D1 _ _ (.inl rfl) (.inl rfl) _)
      · rw [q2]; exact .inl (D1 _ _ (.inr (.inl rfl)) (.inr (.inl rfl)) _)
      · rw [q2, ← q0]; exact .inl (D2 _ (.inr (.inr (.inr q0))) _)
      · refine .inr ⟨rfl, rfl, q2, P, C, D', J', d, g, ?_, c5⟩
        rw [f_X7_perform, y_xk x35, y_xk x35, y_xk x35, y_xk x35, yj, e, if_neg n97, if_neg n99, if_neg n100, if_neg n110, if_neg n112, if_pos rfl, u6, u7, u8, c4, xb2_s]
  · have eF : F16 j = 119 := by rw [← t5]; exact e
    have n97 : ¬ (119 : Int32) = 97 := by decide
    have n99 : ¬ (119 : Int32) = 99 := by decide
    have n100 : ¬ (119 : Int32) = 100 := by decide
    have n110 : ¬ (119 : Int32) = 110 := by decide
    have n112 : ¬ (119 : Int32) = 112 := by decide
    have n115 : ¬ (119 : Int32) = 115 := by decide
    have u6 := t6 (by rw [e]; decide)
    have u8 := t8 (by rw [e]; decide) (by rw [e]; decide)
    obtain ⟨fc, oc, s', F7', z', k1, k2, k3⟩ := m_withdraw hK0 hK h (fu := fu) (by omega) (F17 (3 * j)) (F17 (3 * j + 2)) F7 z
    refine ⟨fc, oc, s', F7', z', ?_, ?_, ?_⟩
    · rw [f_X7_faultOfCommand, y_xk x35, y_xk x35, y_xk x35, y_xk x35, yj, e, if_neg n97, if_neg n99, if_neg n100, if_neg n110, if_neg n112, if_neg n115, if_pos rfl, u6, u8, k1, xb1_s]
    · rw [hF, eF, if_neg n97, if_neg n99, if_neg n100, if_neg n110, if_neg n112, if_neg n115, if_pos rfl, k2, xb4_s]
    · rcases k3 with ⟨rfl, rfl, -, q2⟩ | ⟨rfl, rfl, -, q2⟩ | ⟨q0, rfl, -, q2⟩ | ⟨rfl, rfl, q2, C', J', L, c4, c5, c6, -⟩
      · rw [q2]; exact .inl (D1 _ _ (.inl rfl) (.inl rfl) _)
      · rw [q2]; exact .inl (D1 _ _ (.inr (.inl rfl)) (.inr (.inl rfl)) _)
      · rw [q2]; exact .inl (D2 _ (q0.elim (fun q => .inr (.inl q)) (fun q => .inr (.inr (.inl q)))) _)
      · refine .inr ⟨rfl, rfl, q2, P, C', D, J', d, g, ?_, c5⟩
        rw [f_X7_perform, y_xk x35, y_xk x35, y_xk x35, y_xk x35, yj, e, if_neg n97, if_neg n99, if_neg n100, if_neg n110, if_neg n112, if_neg n115, if_pos rfl, u6, u8, c4, xb2_s]
