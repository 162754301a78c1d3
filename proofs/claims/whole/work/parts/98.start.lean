-- the facts at the start
theorem in_tbl {L : List Cond} (h : L.all (fun w => decide (w ∈ tables_1)) = true) : ∀ w ∈ L, w ∈ lw_tbl := by
  intro w hw
  have h1 := List.all_eq_true.mp h w hw
  exact List.mem_append_right _ (decide_eq_true_eq.mp h1)
theorem st_w : ∀ w ∈ ([.arrayOver (.object "ArbitrationFees$Accounts"), .laysStatic "java/lang/Throwable" "UNASSIGNED_STACK" "[Ljava/lang/StackTraceElement;", .laysStatic "java/lang/Throwable" "SUPPRESSED_SENTINEL" "Ljava/util/List;", .initialized "java/lang/Throwable", .laysStatic "ArbitrationFees$Accounts" "TIER_FLOORS" "[I", .initialized "ArbitrationFees$Accounts", .laysStatic "ArbitrationFees$Accounts" "FIRST_RATES" "[I", .laysStatic "ArbitrationFees$Accounts" "FIRST_TIERS" "[I", .castable "[I" "java/lang/Cloneable"] : List Cond), w ∈ lw_tbl := in_tbl (by decide +kernel)
theorem st_d : ∀ w ∈ xEd.map Cond.declares, w ∈ lw_tbl := in_tbl (by decide +kernel)
theorem st_c : ∀ w ∈ xNames.map (fun n => Cond.castable n n), w ∈ lw_tbl := in_tbl (by decide +kernel)
theorem st_n : ∀ w ∈ xNest.map (fun q => Cond.methodLinkNest q.1 q.2.1 q.2.2 RX7), w ∈ lw_tbl := in_tbl (by decide +kernel)
theorem st_nc : ∀ w ∈ ([.not (.castable "java/lang/IndexOutOfBoundsException" "java/lang/IllegalArgumentException"), .not (.castable "java/lang/IndexOutOfBoundsException" "java/lang/IllegalStateException"), .not (.castable "java/lang/IndexOutOfBoundsException" "java/lang/UnsupportedOperationException"), .not (.castable "java/lang/IndexOutOfBoundsException" "java/util/NoSuchElementException"), .not (.castable "java/lang/IndexOutOfBoundsException" "java/lang/ArithmeticException"), .not (.castable "java/lang/IllegalArgumentException" "java/lang/IndexOutOfBoundsException"), .not (.castable "java/lang/IllegalArgumentException" "java/lang/IllegalStateException"), .not (.castable "java/lang/IllegalArgumentException" "java/lang/UnsupportedOperationException"), .not (.castable "java/lang/IllegalArgumentException" "java/util/NoSuchElementException"), .not (.castable "java/lang/IllegalArgumentException" "java/lang/ArithmeticException"), .not (.castable "java/lang/IllegalStateException" "java/lang/IndexOutOfBoundsException"), .not (.castable "java/lang/IllegalStateException" "java/lang/IllegalArgumentException"), .not (.castable "java/lang/IllegalStateException" "java/lang/UnsupportedOperationException"), .not (.castable "java/lang/IllegalStateException" "java/util/NoSuchElementException"), .not (.castable "java/lang/IllegalStateException" "java/lang/ArithmeticException"), .not (.castable "java/lang/UnsupportedOperationException" "java/lang/IndexOutOfBoundsException"), .not (.castable "java/lang/UnsupportedOperationException" "java/lang/IllegalArgumentException"), .not (.castable "java/lang/UnsupportedOperationException" "java/lang/IllegalStateException"), .not (.castable "java/lang/UnsupportedOperationException" "java/util/NoSuchElementException"), .not (.castable "java/lang/UnsupportedOperationException" "java/lang/ArithmeticException"), .not (.castable "java/util/NoSuchElementException" "java/lang/IndexOutOfBoundsException"), .not (.castable "java/util/NoSuchElementException" "java/lang/IllegalArgumentException"), .not (.castable "java/util/NoSuchElementException" "java/lang/IllegalStateException"), .not (.castable "java/util/NoSuchElementException" "java/lang/UnsupportedOperationException"), .not (.castable "java/util/NoSuchElementException" "java/lang/ArithmeticException"), .not (.castable "java/lang/ArithmeticException" "java/lang/IndexOutOfBoundsException"), .not (.castable "java/lang/ArithmeticException" "java/lang/IllegalArgumentException"), .not (.castable "java/lang/ArithmeticException" "java/lang/IllegalStateException"), .not (.castable "java/lang/ArithmeticException" "java/lang/UnsupportedOperationException"), .not (.castable "java/lang/ArithmeticException" "java/util/NoSuchElementException")] : List Cond), w ∈ flatC (Jvm.Cond.and given_1 narrow_1) := fun w hw => by
  have h : ([.not (.castable "java/lang/IndexOutOfBoundsException" "java/lang/IllegalArgumentException"), .not (.castable "java/lang/IndexOutOfBoundsException" "java/lang/IllegalStateException"), .not (.castable "java/lang/IndexOutOfBoundsException" "java/lang/UnsupportedOperationException"), .not (.castable "java/lang/IndexOutOfBoundsException" "java/util/NoSuchElementException"), .not (.castable "java/lang/IndexOutOfBoundsException" "java/lang/ArithmeticException"), .not (.castable "java/lang/IllegalArgumentException" "java/lang/IndexOutOfBoundsException"), .not (.castable "java/lang/IllegalArgumentException" "java/lang/IllegalStateException"), .not (.castable "java/lang/IllegalArgumentException" "java/lang/UnsupportedOperationException"), .not (.castable "java/lang/IllegalArgumentException" "java/util/NoSuchElementException"), .not (.castable "java/lang/IllegalArgumentException" "java/lang/ArithmeticException"), .not (.castable "java/lang/IllegalStateException" "java/lang/IndexOutOfBoundsException"), .not (.castable "java/lang/IllegalStateException" "java/lang/IllegalArgumentException"), .not (.castable "java/lang/IllegalStateException" "java/lang/UnsupportedOperationException"), .not (.castable "java/lang/IllegalStateException" "java/util/NoSuchElementException"), .not (.castable "java/lang/IllegalStateException" "java/lang/ArithmeticException"), .not (.castable "java/lang/UnsupportedOperationException" "java/lang/IndexOutOfBoundsException"), .not (.castable "java/lang/UnsupportedOperationException" "java/lang/IllegalArgumentException"), .not (.castable "java/lang/UnsupportedOperationException" "java/lang/IllegalStateException"), .not (.castable "java/lang/UnsupportedOperationException" "java/util/NoSuchElementException"), .not (.castable "java/lang/UnsupportedOperationException" "java/lang/ArithmeticException"), .not (.castable "java/util/NoSuchElementException" "java/lang/IndexOutOfBoundsException"), .not (.castable "java/util/NoSuchElementException" "java/lang/IllegalArgumentException"), .not (.castable "java/util/NoSuchElementException" "java/lang/IllegalStateException"), .not (.castable "java/util/NoSuchElementException" "java/lang/UnsupportedOperationException"), .not (.castable "java/util/NoSuchElementException" "java/lang/ArithmeticException"), .not (.castable "java/lang/ArithmeticException" "java/lang/IndexOutOfBoundsException"), .not (.castable "java/lang/ArithmeticException" "java/lang/IllegalArgumentException"), .not (.castable "java/lang/ArithmeticException" "java/lang/IllegalStateException"), .not (.castable "java/lang/ArithmeticException" "java/lang/UnsupportedOperationException"), .not (.castable "java/lang/ArithmeticException" "java/util/NoSuchElementException")] : List Cond).all (fun w => decide (w ∈ flatC (Jvm.Cond.and given_1 narrow_1))) = true := by decide +kernel
  exact decide_eq_true_eq.mp (List.all_eq_true.mp h w hw)
theorem st_fl : ∀ w ∈ ([.isRef (.static "java/lang/Throwable" "UNASSIGNED_STACK" "[Ljava/lang/StackTraceElement;"), .isRef (.static "java/lang/Throwable" "SUPPRESSED_SENTINEL" "Ljava/util/List;"), .arrayOf (.static "ArbitrationFees$Accounts" "TIER_FLOORS" "[I") .int, .eq (.length (.static "ArbitrationFees$Accounts" "TIER_FLOORS" "[I")) (.int 4), .eq (.elem (.static "ArbitrationFees$Accounts" "TIER_FLOORS" "[I") (.int 0)) (.int 0), .eq (.elem (.static "ArbitrationFees$Accounts" "TIER_FLOORS" "[I") (.int 1)) (.int 1000000), .eq (.elem (.static "ArbitrationFees$Accounts" "TIER_FLOORS" "[I") (.int 2)) (.int 5000000), .eq (.elem (.static "ArbitrationFees$Accounts" "TIER_FLOORS" "[I") (.int 3)) (.int 20000000)] : List Cond), w ∈ flatC (Jvm.Cond.and given_1 narrow_1) := fun w hw => by
  have h : ([.isRef (.static "java/lang/Throwable" "UNASSIGNED_STACK" "[Ljava/lang/StackTraceElement;"), .isRef (.static "java/lang/Throwable" "SUPPRESSED_SENTINEL" "Ljava/util/List;"), .arrayOf (.static "ArbitrationFees$Accounts" "TIER_FLOORS" "[I") .int, .eq (.length (.static "ArbitrationFees$Accounts" "TIER_FLOORS" "[I")) (.int 4), .eq (.elem (.static "ArbitrationFees$Accounts" "TIER_FLOORS" "[I") (.int 0)) (.int 0), .eq (.elem (.static "ArbitrationFees$Accounts" "TIER_FLOORS" "[I") (.int 1)) (.int 1000000), .eq (.elem (.static "ArbitrationFees$Accounts" "TIER_FLOORS" "[I") (.int 2)) (.int 5000000), .eq (.elem (.static "ArbitrationFees$Accounts" "TIER_FLOORS" "[I") (.int 3)) (.int 20000000)] : List Cond).all (fun w => decide (w ∈ flatC (Jvm.Cond.and given_1 narrow_1))) = true := by decide +kernel
  exact decide_eq_true_eq.mp (List.all_eq_true.mp h w hw)
theorem st_fr : ∀ w ∈ ([.arrayOf (.static "ArbitrationFees$Accounts" "FIRST_RATES" "[I") .int, .eq (.length (.static "ArbitrationFees$Accounts" "FIRST_RATES" "[I")) (.int 4), .eq (.elem (.static "ArbitrationFees$Accounts" "FIRST_RATES" "[I") (.int 0)) (.int 0), .eq (.elem (.static "ArbitrationFees$Accounts" "FIRST_RATES" "[I") (.int 1)) (.int 400), .eq (.elem (.static "ArbitrationFees$Accounts" "FIRST_RATES" "[I") (.int 2)) (.int 600), .eq (.elem (.static "ArbitrationFees$Accounts" "FIRST_RATES" "[I") (.int 3)) (.int 900), .exactly (.static "ArbitrationFees$Accounts" "FIRST_RATES" "[I") "[I", .arrayOf (.static "ArbitrationFees$Accounts" "FIRST_TIERS" "[I") .int, .eq (.length (.static "ArbitrationFees$Accounts" "FIRST_TIERS" "[I")) (.int 4), .eq (.elem (.static "ArbitrationFees$Accounts" "FIRST_TIERS" "[I") (.int 0)) (.int 1000), .eq (.elem (.static "ArbitrationFees$Accounts" "FIRST_TIERS" "[I") (.int 1)) (.int 500), .eq (.elem (.static "ArbitrationFees$Accounts" "FIRST_TIERS" "[I") (.int 2)) (.int 250), .eq (.elem (.static "ArbitrationFees$Accounts" "FIRST_TIERS" "[I") (.int 3)) (.int 100), .exactly (.static "ArbitrationFees$Accounts" "FIRST_TIERS" "[I") "[I"] : List Cond), w ∈ flatC (Jvm.Cond.and given_1 narrow_1) := fun w hw => by
  have h : ([.arrayOf (.static "ArbitrationFees$Accounts" "FIRST_RATES" "[I") .int, .eq (.length (.static "ArbitrationFees$Accounts" "FIRST_RATES" "[I")) (.int 4), .eq (.elem (.static "ArbitrationFees$Accounts" "FIRST_RATES" "[I") (.int 0)) (.int 0), .eq (.elem (.static "ArbitrationFees$Accounts" "FIRST_RATES" "[I") (.int 1)) (.int 400), .eq (.elem (.static "ArbitrationFees$Accounts" "FIRST_RATES" "[I") (.int 2)) (.int 600), .eq (.elem (.static "ArbitrationFees$Accounts" "FIRST_RATES" "[I") (.int 3)) (.int 900), .exactly (.static "ArbitrationFees$Accounts" "FIRST_RATES" "[I") "[I", .arrayOf (.static "ArbitrationFees$Accounts" "FIRST_TIERS" "[I") .int, .eq (.length (.static "ArbitrationFees$Accounts" "FIRST_TIERS" "[I")) (.int 4), .eq (.elem (.static "ArbitrationFees$Accounts" "FIRST_TIERS" "[I") (.int 0)) (.int 1000), .eq (.elem (.static "ArbitrationFees$Accounts" "FIRST_TIERS" "[I") (.int 1)) (.int 500), .eq (.elem (.static "ArbitrationFees$Accounts" "FIRST_TIERS" "[I") (.int 2)) (.int 250), .eq (.elem (.static "ArbitrationFees$Accounts" "FIRST_TIERS" "[I") (.int 3)) (.int 100), .exactly (.static "ArbitrationFees$Accounts" "FIRST_TIERS" "[I") "[I"] : List Cond).all (fun w => decide (w ∈ flatC (Jvm.Cond.and given_1 narrow_1))) = true := by decide +kernel
  exact decide_eq_true_eq.mp (List.all_eq_true.mp h w hw)
theorem st_four {n : Nat} (hn : n < 2147483648) (h : n.toInt32 = 4) : n = 4 := by
  have h1 : (Int32.ofNat n).toNatClampNeg = n := Int32.toNatClampNeg_ofNat_of_lt hn
  have h2 : Int32.ofNat n = 4 := h
  rw [h2] at h1
  exact h1.symm
theorem st_len {args : Array Value} {s : State} {tm : Term} {t : Nat} {cell : Cell} (h : (Term.length tm).eval args s none [] s = some (.int 4)) (ht : tm.eval args s none [] s = some (.ref t)) (hat : s.arrayAt? t = some cell) : cell.slots.size = 4 := by
  simp only [Term.eval, Option.bind_eq_bind] at h
  simp [ht] at h
  obtain ⟨c2, hc2, h⟩ := Option.bind_eq_some_iff.mp h
  cases hat.symm.trans hc2
  by_cases hn : cell.slots.size < 2147483648
  · rw [if_pos hn] at h
    exact st_four hn (Value.int.inj (Option.some.inj h))
  · rw [if_neg hn] at h
    cases h
theorem st_T {args : Array Value} {s : State} {tm : Term} {f : Nat → Int32} (hlen : (Cond.eq (.length tm) (.int 4)).before args s = true) (hel : ∀ j : Nat, j < 4 → (Cond.eq (.elem tm (.int (Int32.ofNat j))) (.int (f j))).before args s = true) (hex : (Cond.exactly tm "[I").before args s = true) : ∃ t : Nat, tm.eval args s none [] s = some (.ref t) ∧ ∀ cI, s.vm.findClass "[I" = some cI → xTT cI t f (fun q => s.heap.size ≤ q) s.heap := by
  have h4 := va_eqt hlen
  obtain ⟨t, cell, ht, hat, -⟩ := Term.length_spec h4
  obtain ⟨hcell, hkn, hst, -⟩ := State.arrayAt?_spec hat
  have hsz := st_len h4 ht hat
  obtain ⟨a2, c2, cell2, k2, e1, e2, e3, e4, e5, e6, -⟩ := Cond.exactly_spec (show (Cond.exactly tm "[I").holds args s none s [] = true from hex)
  cases ht.symm.trans e1
  cases hcell.symm.trans e3
  refine ⟨t, ht, fun cI hI => ⟨cell, hcell, fun k hk => (by rw [hk] at hst; cases hst), hkn, e6.trans (Option.some.inj (e2.symm.trans hI)), ?_, Nat.not_le.mpr (Array.getElem?_eq_some_iff.mp hcell).1⟩⟩
  apply Array.ext_getElem?
  intro j
  by_cases hj : j < 4
  · obtain ⟨a, i, cell3, g1, g2, g3, g4, g5⟩ := Term.elem_spec (va_eqt (hel j hj))
    cases ht.symm.trans g1
    cases hat.symm.trans g3
    have hi : i = Int32.ofNat j := by
      have e : (Term.int (Int32.ofNat j)).eval args s none [] s = some (.int (Int32.ofNat j)) := rfl
      cases g2.symm.trans e
      rfl
    have hc : i.toNatClampNeg = j := by rw [hi]; exact Int32.toNatClampNeg_ofNat_of_lt (Nat.lt_trans hj (by decide))
    rw [hc] at g5
    rw [arrV_read _ _ hj]
    exact g5
  · rw [Array.getElem?_eq_none (by rw [hsz]; omega), Array.getElem?_eq_none (by rw [arrV_size]; omega)]
theorem st_K {args : Array Value} {s : State} (hts : ∀ w ∈ lw_tbl, w.before args s = true) (t : Nat × Nat × Nat) : ∃ κ : xKt, κ.2.2.2 = t ∧ va_K κ.1 xCls (xTys κ) s := by
  have hg : ∀ w ∈ gW, w.before args s = true := fun w hw => hts w (gW_good hw).1
  obtain ⟨c0, i0, h0⟩ := u_known hg inX0 (hg _ kRX7_9.2.2.2.2.2.2.1)
  obtain ⟨c1, i1, h1⟩ := u_known hg inX1 (hg _ kRX0_20.2.2.2.2.2.2.1)
  obtain ⟨c2, i2, h2⟩ := u_known hg inX2 (hg _ kRX0_27.2.2.2.2.2.2.1)
  obtain ⟨c3, i3, h3⟩ := u_known hg inX3 (hg _ kRX0_34.2.2.2.2.2.2.1)
  obtain ⟨c4, i4, h4⟩ := u_known hg inX4 (hg _ kRX0_11.2.2.2.2.2.2.1)
  obtain ⟨c5, i5, h5⟩ := u_known hg inX5 (hg _ kRX7_32.2.2.2.2.2.2.1)
  obtain ⟨c6, i6, h6⟩ := u_known hg inX6 (hg _ kRX7_25.2.2.2.2.2.2.1)
  obtain ⟨c7, i7, h7⟩ := u_known hg inX7 (hg _ kL_mk7.2.2.2.2.2.2.1)
  obtain ⟨c8, i8, h8⟩ := u_known hg inX8 (hg _ kL_mk8.2.2.2.2.2.2.1)
  obtain ⟨cI, kI, mI, aI, bI, dI⟩ := Cond.arrayClass_spec (hg _ (wI_all _ (List.mem_of_getElem? (i := 11) rfl)))
  obtain ⟨cJ, kJ, mJ, aJ, bJ, dJ⟩ := Cond.arrayClass_spec (hg _ (wI_all _ (List.mem_of_getElem? (i := 12) rfl)))
  obtain ⟨cC, kC, mC, aC, bC, dC⟩ := Cond.arrayClass_spec (hg _ (wI_all _ (List.mem_of_getElem? (i := 13) rfl)))
  obtain ⟨cD, kD, mD, aD, bD, dD⟩ := Cond.arrayClass_spec (hg _ (wI_all _ (List.mem_of_getElem? (i := 14) rfl)))
  obtain ⟨mA, cA, kA, aA, -, bA, dA, eA⟩ := Cond.arrayOver_spec (hts _ (st_w _ (List.mem_of_getElem? (i := 0) rfl)))
  refine ⟨((fun k => match k with | 0 => c0 | 1 => c1 | 2 => c2 | 3 => c3 | 4 => c4 | 5 => c5 | 6 => c6 | 7 => c7 | _ => c8, fun k => match k with | 0 => i0 | 1 => i1 | 2 => i2 | 3 => i3 | 4 => i4 | 5 => i5 | 6 => i6 | 7 => i7 | _ => i8), (cI, cJ, cC, cD, cA), fun _ => 0, t), rfl, fun c q hq => ?_, fun k q hk => ?_⟩
  · have hc : c < 9 := (List.getElem?_eq_some_iff.mp hq).1
    obtain rfl | rfl | rfl | rfl | rfl | rfl | rfl | rfl | rfl : c = 0 ∨ c = 1 ∨ c = 2 ∨ c = 3 ∨ c = 4 ∨ c = 5 ∨ c = 6 ∨ c = 7 ∨ c = 8 := by omega
    all_goals cases hq
    all_goals assumption
  · have hc : k < 5 := (List.getElem?_eq_some_iff.mp hk).1
    obtain rfl | rfl | rfl | rfl | rfl : k = 0 ∨ k = 1 ∨ k = 2 ∨ k = 3 ∨ k = 4 := by omega
    · cases hk
      exact ⟨fun n z => ⟨fun k h => (by cases h), kI, bI, mI, dI⟩, aI⟩
    · cases hk
      exact ⟨fun n z => ⟨fun k h => (by cases h), kJ, bJ, mJ, dJ⟩, aJ⟩
    · cases hk
      exact ⟨fun n z => ⟨fun k h => (by cases h), kC, bC, mC, dC⟩, aC⟩
    · cases hk
      exact ⟨fun n z => ⟨fun k h => (by cases h), kD, bD, mD, dD⟩, aD⟩
    · cases hk
      exact ⟨fun n z => ⟨fun k h => (by cases h), kA, bA, mA, dA⟩, kA, mA, bA, dA, aA, eA⟩
theorem st_E {args : Array Value} {s : State} (hts : ∀ w ∈ lw_tbl, w.before args s = true) (hf : ∀ w ∈ flatC (Jvm.Cond.and given_1 narrow_1), w.before args s = true) : iEn s := by
  refine ⟨⟨fun x hx => va_any (by rfl) (hts _ (st_d _ (List.mem_map_of_mem hx))), fun n hn => va_any (by rfl) (hts _ (st_c _ (List.mem_map_of_mem (f := fun n => Cond.castable n n) hn))), fun n hn k hk hnk => ?_, fun q hq => va_any (by rfl) (hts _ (st_n _ (List.mem_map_of_mem (f := fun q => Cond.methodLinkNest q.1 q.2.1 q.2.2 RX7) hq)))⟩, va_AO.of (hts _ (st_w _ (List.mem_of_getElem? (i := 0) rfl))), va_any (by rfl) (hts _ (st_w _ (List.mem_of_getElem? (i := 8) rfl)))⟩
  refine va_Nc.of (args := args) (hf _ (st_nc _ ?_))
  unfold xNames at hn hk
  simp only [List.mem_cons, List.not_mem_nil, or_false] at hn hk
  rcases hn with rfl | rfl | rfl | rfl | rfl | rfl <;> rcases hk with rfl | rfl | rfl | rfl | rfl | rfl <;> first | exact absurd rfl hnk | simp
theorem st_S {args : Array Value} {s : State} (hts : ∀ w ∈ lw_tbl, w.before args s = true) (hf : ∀ w ∈ flatC (Jvm.Cond.and given_1 narrow_1), w.before args s = true) : ∃ t r w : Nat, vx_Zq Bundle.tN "UNASSIGNED_STACK" Bundle.steD (fun q => s.heap.size ≤ q) s s.heap ∧ vx_Zq Bundle.tN "SUPPRESSED_SENTINEL" Bundle.listD (fun q => s.heap.size ≤ q) s s.heap ∧ va_Z "ArbitrationFees$Accounts" "TIER_FLOORS" "[I" (.ref t) (fun q => s.heap.size ≤ q) s s.heap ∧ va_T .int t 4 (fun j => .int (xTier j)) (fun q => s.heap.size ≤ q) s s.heap ∧ va_Z "ArbitrationFees$Accounts" "FIRST_RATES" "[I" (.ref r) (fun q => s.heap.size ≤ q) s s.heap ∧ (∀ cI, s.vm.findClass "[I" = some cI → xTT cI r xRate0 (fun q => s.heap.size ≤ q) s.heap) ∧ va_Z "ArbitrationFees$Accounts" "FIRST_TIERS" "[I" (.ref w) (fun q => s.heap.size ≤ q) s s.heap ∧ (∀ cI, s.vm.findClass "[I" = some cI → xTT cI w xTier0 (fun q => s.heap.size ≤ q) s.heap) := by
  have hA : ∀ a : Nat, a < s.heap.size → ¬ s.heap.size ≤ a := fun a h => Nat.not_le.mpr h
  obtain ⟨t, h1, h2⟩ := va_Tof (args := args) (s := s) (tm := .static "ArbitrationFees$Accounts" "TIER_FLOORS" "[I") (ty := .int) (N := 4) (f := fun j => .int (xTier j)) (A := fun q => s.heap.size ≤ q) (by decide) (hf _ (st_fl _ (List.mem_of_getElem? (i := 2) rfl))) (va_eqt (z := 4) (hf _ (st_fl _ (List.mem_of_getElem? (i := 3) rfl)))) (fun j hj => by
    obtain rfl | rfl | rfl | rfl : j = 0 ∨ j = 1 ∨ j = 2 ∨ j = 3 := by omega
    · exact va_eqt (z := 0) (hf _ (st_fl _ (List.mem_of_getElem? (i := 4) rfl)))
    · exact va_eqt (z := 1000000) (hf _ (st_fl _ (List.mem_of_getElem? (i := 5) rfl)))
    · exact va_eqt (z := 5000000) (hf _ (st_fl _ (List.mem_of_getElem? (i := 6) rfl)))
    · exact va_eqt (z := 20000000) (hf _ (st_fl _ (List.mem_of_getElem? (i := 7) rfl)))) hA
  obtain ⟨r, r1, r2⟩ := st_T (args := args) (s := s) (tm := .static "ArbitrationFees$Accounts" "FIRST_RATES" "[I") (f := xRate0) (hf _ (st_fr _ (List.mem_of_getElem? (i := 1) rfl))) (fun j hj => by
    obtain rfl | rfl | rfl | rfl : j = 0 ∨ j = 1 ∨ j = 2 ∨ j = 3 := by omega
    · exact hf _ (st_fr _ (List.mem_of_getElem? (i := 2) rfl))
    · exact hf _ (st_fr _ (List.mem_of_getElem? (i := 3) rfl))
    · exact hf _ (st_fr _ (List.mem_of_getElem? (i := 4) rfl))
    · exact hf _ (st_fr _ (List.mem_of_getElem? (i := 5) rfl))) (hf _ (st_fr _ (List.mem_of_getElem? (i := 6) rfl)))
  obtain ⟨w, w1, w2⟩ := st_T (args := args) (s := s) (tm := .static "ArbitrationFees$Accounts" "FIRST_TIERS" "[I") (f := xTier0) (hf _ (st_fr _ (List.mem_of_getElem? (i := 8) rfl))) (fun j hj => by
    obtain rfl | rfl | rfl | rfl : j = 0 ∨ j = 1 ∨ j = 2 ∨ j = 3 := by omega
    · exact hf _ (st_fr _ (List.mem_of_getElem? (i := 9) rfl))
    · exact hf _ (st_fr _ (List.mem_of_getElem? (i := 10) rfl))
    · exact hf _ (st_fr _ (List.mem_of_getElem? (i := 11) rfl))
    · exact hf _ (st_fr _ (List.mem_of_getElem? (i := 12) rfl))) (hf _ (st_fr _ (List.mem_of_getElem? (i := 13) rfl)))
  exact ⟨t, r, w, vx_Zqof (hts _ (st_w _ (List.mem_of_getElem? (i := 1) rfl))) (hts _ (st_w _ (List.mem_of_getElem? (i := 3) rfl))) (hf _ (st_fl _ (List.mem_of_getElem? (i := 0) rfl))) hA, vx_Zqof (hts _ (st_w _ (List.mem_of_getElem? (i := 2) rfl))) (hts _ (st_w _ (List.mem_of_getElem? (i := 3) rfl))) (hf _ (st_fl _ (List.mem_of_getElem? (i := 1) rfl))) hA, va_Zref (hts _ (st_w _ (List.mem_of_getElem? (i := 4) rfl))) (hts _ (st_w _ (List.mem_of_getElem? (i := 5) rfl))) h1 hA, h2, va_Zof (hts _ (st_w _ (List.mem_of_getElem? (i := 6) rfl))) (hts _ (st_w _ (List.mem_of_getElem? (i := 5) rfl))) r1 hA, r2, va_Zof (hts _ (st_w _ (List.mem_of_getElem? (i := 7) rfl))) (hts _ (st_w _ (List.mem_of_getElem? (i := 5) rfl))) w1 hA, w2⟩
