-- when a debt will have grown
theorem g_none {fu : Nat} {s : xF64} {u A ow : Int64} (ok : yOk u A) (hw0 : 0 ≤ ow.toInt) (hw : ow.toInt ≤ 4000000000000000000) {x2 : Int32} (hno : ∀ d : Nat, d ≤ 3650 → ow.toInt + yG u A d / 3600000 < x2.toInt) (z : Int32) : ∀ l d m, d + l = 3651 → l < m → f_X8_growsTo_86 fu s m x2 (yR u A d) (ow + yQ u A d) A (nI d) z = some (0, 3) := by
  intro l
  induction l with
  | zero =>
    intro d m hd hm
    obtain ⟨m, rfl⟩ : ∃ m', m = m' + 1 := ⟨m - 1, by omega⟩
    have hd' : d = 3651 := by omega
    subst hd'
    have c : ((3650 : Int32) < nI 3651) = True := eq_true (nI_lt (a := 3650) (b := 3651) (by omega) (by omega))
    simp only [f_X8_growsTo_86, c, if_true, f_X8_fails, xb2_s]
  | succ l ih =>
    intro d m hd hm
    obtain ⟨m, rfl⟩ : ∃ m', m = m' + 1 := ⟨m - 1, by omega⟩
    have bq := y_Qb ok (d := d) (by omega)
    have c : ((3650 : Int32) < nI d) = False := eq_false (nI_nlt (a := 3650) (b := d) (by omega) (by omega))
    have c2 : (ow + yQ u A d < x2.toInt64) = True := eq_true (by
      rw [y_lt64, y_addL (by omega) (by omega), y_w, y_Qt ok (by omega)]
      exact hno d (by omega))
    obtain ⟨y1, y2⟩ := y_day ok (d := d) (by omega)
    rw [y1] at y2
    rw [← ih (d + 1) m (by omega) (by omega)]
    simp only [f_X8_growsTo_86, c, c2, if_true, if_false, y2, y1, y_chg, nI_1]
theorem g_hit {fu : Nat} {s : xF64} {u A ow : Int64} (ok : yOk u A) (hw0 : 0 ≤ ow.toInt) (hw : ow.toInt ≤ 4000000000000000000) {x2 : Int32} {V : Nat} (hV : V ≤ 3650) (hno : ∀ d : Nat, d < V → ow.toInt + yG u A d / 3600000 < x2.toInt) (hyes : x2.toInt ≤ ow.toInt + yG u A V / 3600000) (z : Int32) : ∀ l d m, d + l = V → l < m → f_X8_growsTo_86 fu s m x2 (yR u A d) (ow + yQ u A d) A (nI d) z = some (nI V, z) := by
  intro l
  induction l with
  | zero =>
    intro d m hd hm
    obtain ⟨m, rfl⟩ : ∃ m', m = m' + 1 := ⟨m - 1, by omega⟩
    have hd' : d = V := by omega
    subst hd'
    have bq := y_Qb ok (d := d) (by omega)
    have c : ((3650 : Int32) < nI d) = False := eq_false (nI_nlt (a := 3650) (b := d) (by omega) (by omega))
    have c2 : (ow + yQ u A d < x2.toInt64) = False := eq_false (by
      rw [y_lt64, y_addL (by omega) (by omega), y_w, y_Qt ok (by omega)]
      exact Int.not_lt.mpr hyes)
    simp only [f_X8_growsTo_86, c, c2, if_false]
  | succ l ih =>
    intro d m hd hm
    obtain ⟨m, rfl⟩ : ∃ m', m = m' + 1 := ⟨m - 1, by omega⟩
    have bq := y_Qb ok (d := d) (by omega)
    have c : ((3650 : Int32) < nI d) = False := eq_false (nI_nlt (a := 3650) (b := d) (by omega) (by omega))
    have c2 : (ow + yQ u A d < x2.toInt64) = True := eq_true (by
      rw [y_lt64, y_addL (by omega) (by omega), y_w, y_Qt ok (by omega)]
      exact hno d (by omega))
    obtain ⟨y1, y2⟩ := y_day ok (d := d) (by omega)
    rw [y1] at y2
    rw [← ih (d + 1) m (by omega) (by omega)]
    simp only [f_X8_growsTo_86, c, c2, if_true, if_false, y2, y1, y_chg, nI_1]
theorem y_hit (x O u B : Int) : (x - O) * 3600000 - u ≤ B ↔ x ≤ O + (u + B) / 3600000 := by
  have h := Int.le_ediv_iff_mul_le (a := x - O) (b := u + B) (c := 3600000) (by decide)
  generalize (u + B) / 3600000 = Q at h ⊢
  omega
theorem y_ceil {z A d : Int} (hA : 0 < A) : (z + A - 1) / A ≤ d ↔ z ≤ d * A := by
  have h1 : (z + A - 1) / A < d + 1 ↔ z + A - 1 < (d + 1) * A := Int.ediv_lt_iff_lt_mul hA
  have h2 : (d + 1) * A = d * A + A := by rw [Int.add_mul, Int.one_mul]
  rw [h2] at h1
  omega
