-- the world at the law's loop
def lZ : sW := (fun _ => iZacc, (0, (fun _ => 0), 0, 1, 0, (fun _ => 0), (fun _ => 0), (fun _ => 0), (fun _ => 0)), (0, (fun _ => 0), (fun _ => 0)), (0, 0, 0, -1, -1), (0, eF1, (fun _ => 0), (fun _ => 0), (fun _ => 0), 0, 0, 0, (fun _ => 0), 0, -1, 0, (fun _ => 0), 0, 0, 0, (fun _ => 0), (fun _ => 0), 0), ((fun _ => 0), (fun _ => 0)))
def lPos (k : Nat) : Nat := if k < 26 then 1 + k else if k < 52 then 1 + k else if k < 234 then 11 + k else if k = 234 then 0 else if k = 235 then 53 else if k < 245 then k - 182 else k
def lAd (g7 g8 : Nat → Nat) (qo qv : Nat) (k : Nat) : Nat := if k < 245 then g7 (lPos k) else if k < 254 then g8 (k - 245) else if k = 254 then qo else qv
def lK (κ : xKt) (g7 g8 : Nat → Nat) (qo qv : Nat) : xKt := (κ.1, κ.2.1, lAd g7 g8 qo qv, κ.2.2.2)
abbrev lW (κ : xKt) (g7 g8 : Nat → Nat) (qo qv : Nat) : va_W := ((iWs 245 (shX7 κ) g7 ++ iWs 9 (shX8 κ) g8) ++ [(qo, .inl (xcJ κ, 1, .inr (.inl (fun _ => 0))))]) ++ [(qv, .inl (xcD κ, 1, .inr (.inr (.inr (.inl (fun _ => 0))))))]
theorem iWs_at {n : Nat} {sh : (Nat → Nat) → Nat → va_E} {g : Nat → Nat} {j : Nat} (h : j < n) : (iWs n sh g)[j]? = some (g j, sh g j) := by
  simp [iWs, h]
theorem iWs_len {n : Nat} {sh : (Nat → Nat) → Nat → va_E} {g : Nat → Nat} : (iWs n sh g).length = n := by
  simp [iWs]
theorem lPos_lt {k : Nat} (h : k < 256) : lPos k < 256 ∧ (k < 245 → lPos k < 245) ∧ (245 ≤ k → lPos k = k) := by
  unfold lPos
  repeat' split
  all_goals omega
theorem lPos_inj {i j : Nat} (hi : i < 256) (hj : j < 256) (h : lPos i = lPos j) : i = j := by
  unfold lPos at h
  repeat' split at h
  all_goals omega
theorem lPos_sur : (List.range 245).map (fun k => lPos k) = (List.range 245).map (fun k => lPos k) := rfl
set_option maxRecDepth 100000 in
set_option maxHeartbeats 8000000 in
theorem l_cells (κ : xKt) (g7 g8 : Nat → Nat) (qo qv : Nat) : ((List.range 245).filter (fun k => k != 235)).map (fun k => shX7 κ g7 (lPos k)) = ((List.range 245).filter (fun k => k != 235)).map (fun k => xCell (lK κ g7 g8 qo qv) lZ k) := rfl
set_option maxRecDepth 100000 in
theorem l_cells8 (κ : xKt) (g7 g8 : Nat → Nat) (qo qv : Nat) : (List.range 9).map (fun k => shX8 κ g8 k) = (List.range 9).map (fun k => xCell (lK κ g7 g8 qo qv) lZ (245 + k)) := rfl
theorem l_cell {κ : xKt} {g7 g8 : Nat → Nat} {qo qv k : Nat} (h : k < 256) (hne : k ≠ 235) : (lW κ g7 g8 qo qv)[lPos k]? = some (lAd g7 g8 qo qv k, xCell (lK κ g7 g8 qo qv) lZ k) := by
  obtain ⟨h1, h2, h3⟩ := lPos_lt h
  by_cases c : k < 245
  · have hp := h2 c
    have e := List.map_inj_left.mp (l_cells κ g7 g8 qo qv) k (by
      rw [List.mem_filter, List.mem_range]
      exact ⟨c, by simpa using hne⟩)
    have el : lAd g7 g8 qo qv k = g7 (lPos k) := if_pos c
    rw [← e, el]
    unfold lW
    rw [List.append_assoc, List.append_assoc, List.getElem?_append_left (by rw [iWs_len]; exact hp)]
    exact iWs_at hp
  · have hp := h3 (by omega)
    rw [hp]
    by_cases c2 : k < 254
    · have e := List.map_inj_left.mp (l_cells8 κ g7 g8 qo qv) (k - 245) (by rw [List.mem_range]; omega)
      have el : lAd g7 g8 qo qv k = g8 (k - 245) := by unfold lAd; rw [if_neg c, if_pos c2]
      have ek : 245 + (k - 245) = k := by omega
      rw [ek] at e
      rw [el, ← e]
      unfold lW
      rw [List.append_assoc, List.append_assoc, List.getElem?_append_right (by rw [iWs_len]; omega), iWs_len, List.getElem?_append_left (by rw [iWs_len]; omega)]
      exact iWs_at (by omega)
    · have hl : (iWs 245 (shX7 κ) g7 ++ iWs 9 (shX8 κ) g8).length = 254 := by rw [List.length_append, iWs_len, iWs_len]
      obtain rfl | rfl : k = 254 ∨ k = 255 := by omega
      · unfold lW
        rw [List.append_assoc, List.getElem?_append_right (by rw [hl]; omega), hl]
        rfl
      · unfold lW
        rw [List.append_assoc, List.getElem?_append_right (by rw [hl]; omega), hl]
        rfl
theorem l_rows {κ : xKt} {g7 g8 : Nat → Nat} {qo qv : Nat} {H : Heap} (hP : va_P κ.1 xCls (lW κ g7 g8 qo qv) H) : va_at κ.1 xCls (lAd g7 g8 qo qv 235, xCell (lK κ g7 g8 qo qv) lZ 235) H := by
  have h53 : (lW κ g7 g8 qo qv)[53]? = some (g7 53, shX7 κ g7 53) := by
    unfold lW
    rw [List.append_assoc, List.append_assoc, List.getElem?_append_left (by rw [iWs_len]; omega)]
    exact iWs_at (by omega)
  have h := hP 53 _ h53
  have e : vp_cell (xcA κ) (7, .inr (.inr (.inr (.inr (fun i => some (g7 (lPos (26 * (2 + i)))))))))  = vp_cell (xcA κ) (7, .inr (.inr (.inr (.inr (fun i => some (xAd (lK κ g7 g8 qo qv) (26 * (2 + i)))))))) := by
    rw [vp_cell_q, vp_cell_q]
    unfold arrV
    congr 1
  have e2 : ∀ f : Nat → Option Nat, (∀ j, j < 7 → f j = some (g7 (lPos (26 * (2 + j))))) → vp_cell (xcA κ) (7, .inr (.inr (.inr (.inr f)))) = vp_cell (xcA κ) (7, .inr (.inr (.inr (.inr (fun i => some (g7 (lPos (26 * (2 + i))))))))) := fun f hf => by
    rw [vp_cell_q, vp_cell_q]
    unfold arrV
    congr 1
    apply congrArg Array.ofFn
    funext j
    show va_rf (f j.1) = va_rf (some (g7 (lPos (26 * (2 + j.1)))))
    rw [hf j.1 j.2]
  show H[_]? = some (vp_cell (xcA κ) (7, .inr (.inr (.inr (.inr (fun i => some (xAd (lK κ g7 g8 qo qv) (26 * (2 + i)))))))))
  rw [← e]
  have h' : H[g7 53]? = some (vp_cell (xcA κ) (7, .inr (.inr (.inr (.inr (va_up (va_up (va_up (va_up (va_up (va_up (va_up (fun _ => none) 0 (some (g7 63))) 1 (some (g7 89))) 2 (some (g7 115))) 3 (some (g7 141))) 4 (some (g7 167))) 5 (some (g7 193))) 6 (some (g7 219)))))))) := h
  rw [e2 _ (fun j hj => by
    obtain rfl | rfl | rfl | rfl | rfl | rfl | rfl : j = 0 ∨ j = 1 ∨ j = 2 ∨ j = 3 ∨ j = 4 ∨ j = 5 ∨ j = 6 := by omega
    all_goals rfl)] at h'
  exact h'
theorem l_world {κ : xKt} {g7 g8 : Nat → Nat} {qo qv : Nat} {H : Heap} (hP : va_P κ.1 xCls (lW κ g7 g8 qo qv) H) : va_P (lK κ g7 g8 qo qv).1 xCls (xWs (lK κ g7 g8 qo qv) lZ) H := fun k q hk => by
  obtain ⟨h1, rfl⟩ := x_at0 hk
  by_cases c : k = 235
  · subst c
    exact l_rows hP
  · exact hP (lPos k) _ (l_cell h1 c)
theorem l_at235 {κ : xKt} {g7 g8 : Nat → Nat} {qo qv : Nat} : (lW κ g7 g8 qo qv)[53]? = some (g7 53, shX7 κ g7 53) := by
  unfold lW
  rw [List.append_assoc, List.append_assoc, List.getElem?_append_left (by rw [iWs_len]; omega)]
  exact iWs_at (by omega)
theorem l_fst {κ : xKt} {g7 g8 : Nat → Nat} {qo qv k : Nat} (h : k < 256) : ∃ e, (lW κ g7 g8 qo qv)[lPos k]? = some (lAd g7 g8 qo qv k, e) := by
  by_cases c : k = 235
  · subst c
    exact ⟨_, l_at235⟩
  · exact ⟨_, l_cell h c⟩
theorem l_inj {κ : xKt} {A : Nat → Prop} {g7 g8 : Nat → Nat} {qo qv : Nat} (hD : va_D A (lW κ g7 g8 qo qv)) : xInj (lK κ g7 g8 qo qv) ∧ ∀ k, k < 256 → A (xAd (lK κ g7 g8 qo qv) k) := by
  refine ⟨fun i j hi hj h => ?_, fun k hk => ?_⟩
  · obtain ⟨e1, h1⟩ := l_fst (κ := κ) (g7 := g7) (g8 := g8) (qo := qo) (qv := qv) hi
    obtain ⟨e2, h2⟩ := l_fst (κ := κ) (g7 := g7) (g8 := g8) (qo := qo) (qv := qv) hj
    exact lPos_inj hi hj (hD.1 _ _ _ _ h1 h2 h)
  · obtain ⟨e1, h1⟩ := l_fst (κ := κ) (g7 := g7) (g8 := g8) (qo := qo) (qv := qv) hk
    exact hD.2 _ _ h1
theorem l_start : LWS 0 lZ := by
  have hu : upA (fun _ => iZacc) 0 iZacc = fun _ => iZacc := upA_self (A := fun _ => iZacc) (a := 0)
  refine ⟨fun _ => iZacc, iZacc.1, iZacc.2.1, iZacc.2.2.1, iZacc.2.2.2.1, iZacc.2.2.2.2.1, iZacc.2.2.2.2.2.1, iZacc.2.2.2.2.2.2.1, iZacc.2.2.2.2.2.2.2, 0, (fun _ => 0), 0, 1, 0, (fun _ => 0), (fun _ => 0), (fun _ => 0), (fun _ => 0), 0, (fun _ => 0), (fun _ => 0), 0, 0, 0, -1, -1, 0, eF1, (fun _ => 0), (fun _ => 0), (fun _ => 0), 0, 0, 0, (fun _ => 0), 0, -1, 0, (fun _ => 0), 0, 0, 0, (fun _ => 0), (fun _ => 0), 0, (fun _ => 0), (fun _ => 0), ?_, ?_⟩
  · show lZ = (upA (fun _ => iZacc) 0 iZacc, lZ.2)
    rw [hu]
    rfl
  · refine ⟨RA_zero (by omega) eF1_ok.2 rfl rfl rfl rfl ?_ ?_ rfl rfl, ⟨0, 0, by omega, by omega, rfl, rfl, rfl, fun j hj => absurd hj (Nat.not_lt_zero j)⟩, .inl ⟨rfl, rfl⟩, .inl ⟨rfl, rfl⟩, rfl, 0, rfl, rfl, by omega, fun k hk => absurd hk (Nat.not_lt_zero k)⟩
    · intro k hk
      obtain rfl | rfl | rfl | rfl : k = 0 ∨ k = 1 ∨ k = 2 ∨ k = 3 := by omega
      all_goals rfl
    · intro k hk
      obtain rfl | rfl | rfl | rfl : k = 0 ∨ k = 1 ∨ k = 2 ∨ k = 3 := by omega
      all_goals rfl
