theorem xb5_s {α1 α2 α3 α4 α5 ρ : Type} (a1 : α1) (a2 : α2) (a3 : α3) (a4 : α4) (a5 : α5) (k : α1 → α2 → α3 → α4 → α5 → Option ρ) : xb5 (some (a1, a2, a3, a4, a5)) k = k a1 a2 a3 a4 a5 := rfl
theorem xb6_s {α1 α2 α3 α4 α5 α6 ρ : Type} (a1 : α1) (a2 : α2) (a3 : α3) (a4 : α4) (a5 : α5) (a6 : α6) (k : α1 → α2 → α3 → α4 → α5 → α6 → Option ρ) : xb6 (some (a1, a2, a3, a4, a5, a6)) k = k a1 a2 a3 a4 a5 a6 := rfl
theorem xb7_s {α1 α2 α3 α4 α5 α6 α7 ρ : Type} (a1 : α1) (a2 : α2) (a3 : α3) (a4 : α4) (a5 : α5) (a6 : α6) (a7 : α7) (k : α1 → α2 → α3 → α4 → α5 → α6 → α7 → Option ρ) : xb7 (some (a1, a2, a3, a4, a5, a6, a7)) k = k a1 a2 a3 a4 a5 a6 a7 := rfl
theorem xb8_s {α1 α2 α3 α4 α5 α6 α7 α8 ρ : Type} (a1 : α1) (a2 : α2) (a3 : α3) (a4 : α4) (a5 : α5) (a6 : α6) (a7 : α7) (a8 : α8) (k : α1 → α2 → α3 → α4 → α5 → α6 → α7 → α8 → Option ρ) : xb8 (some (a1, a2, a3, a4, a5, a6, a7, a8)) k = k a1 a2 a3 a4 a5 a6 a7 a8 := rfl
theorem xb9_s {α1 α2 α3 α4 α5 α6 α7 α8 α9 ρ : Type} (a1 : α1) (a2 : α2) (a3 : α3) (a4 : α4) (a5 : α5) (a6 : α6) (a7 : α7) (a8 : α8) (a9 : α9) (k : α1 → α2 → α3 → α4 → α5 → α6 → α7 → α8 → α9 → Option ρ) : xb9 (some (a1, a2, a3, a4, a5, a6, a7, a8, a9)) k = k a1 a2 a3 a4 a5 a6 a7 a8 a9 := rfl
theorem xb10_s {α1 α2 α3 α4 α5 α6 α7 α8 α9 α10 ρ : Type} (a1 : α1) (a2 : α2) (a3 : α3) (a4 : α4) (a5 : α5) (a6 : α6) (a7 : α7) (a8 : α8) (a9 : α9) (a10 : α10) (k : α1 → α2 → α3 → α4 → α5 → α6 → α7 → α8 → α9 → α10 → Option ρ) : xb10 (some (a1, a2, a3, a4, a5, a6, a7, a8, a9, a10)) k = k a1 a2 a3 a4 a5 a6 a7 a8 a9 a10 := rfl
theorem xb11_s {α1 α2 α3 α4 α5 α6 α7 α8 α9 α10 α11 ρ : Type} (a1 : α1) (a2 : α2) (a3 : α3) (a4 : α4) (a5 : α5) (a6 : α6) (a7 : α7) (a8 : α8) (a9 : α9) (a10 : α10) (a11 : α11) (k : α1 → α2 → α3 → α4 → α5 → α6 → α7 → α8 → α9 → α10 → α11 → Option ρ) : xb11 (some (a1, a2, a3, a4, a5, a6, a7, a8, a9, a10, a11)) k = k a1 a2 a3 a4 a5 a6 a7 a8 a9 a10 a11 := rfl
theorem xb12_s {α1 α2 α3 α4 α5 α6 α7 α8 α9 α10 α11 α12 ρ : Type} (a1 : α1) (a2 : α2) (a3 : α3) (a4 : α4) (a5 : α5) (a6 : α6) (a7 : α7) (a8 : α8) (a9 : α9) (a10 : α10) (a11 : α11) (a12 : α12) (k : α1 → α2 → α3 → α4 → α5 → α6 → α7 → α8 → α9 → α10 → α11 → α12 → Option ρ) : xb12 (some (a1, a2, a3, a4, a5, a6, a7, a8, a9, a10, a11, a12)) k = k a1 a2 a3 a4 a5 a6 a7 a8 a9 a10 a11 a12 := rfl
theorem xb13_s {α1 α2 α3 α4 α5 α6 α7 α8 α9 α10 α11 α12 α13 ρ : Type} (a1 : α1) (a2 : α2) (a3 : α3) (a4 : α4) (a5 : α5) (a6 : α6) (a7 : α7) (a8 : α8) (a9 : α9) (a10 : α10) (a11 : α11) (a12 : α12) (a13 : α13) (k : α1 → α2 → α3 → α4 → α5 → α6 → α7 → α8 → α9 → α10 → α11 → α12 → α13 → Option ρ) : xb13 (some (a1, a2, a3, a4, a5, a6, a7, a8, a9, a10, a11, a12, a13)) k = k a1 a2 a3 a4 a5 a6 a7 a8 a9 a10 a11 a12 a13 := rfl
theorem xb14_s {α1 α2 α3 α4 α5 α6 α7 α8 α9 α10 α11 α12 α13 α14 ρ : Type} (a1 : α1) (a2 : α2) (a3 : α3) (a4 : α4) (a5 : α5) (a6 : α6) (a7 : α7) (a8 : α8) (a9 : α9) (a10 : α10) (a11 : α11) (a12 : α12) (a13 : α13) (a14 : α14) (k : α1 → α2 → α3 → α4 → α5 → α6 → α7 → α8 → α9 → α10 → α11 → α12 → α13 → α14 → Option ρ) : xb14 (some (a1, a2, a3, a4, a5, a6, a7, a8, a9, a10, a11, a12, a13, a14)) k = k a1 a2 a3 a4 a5 a6 a7 a8 a9 a10 a11 a12 a13 a14 := rfl
theorem xb15_s {α1 α2 α3 α4 α5 α6 α7 α8 α9 α10 α11 α12 α13 α14 α15 ρ : Type} (a1 : α1) (a2 : α2) (a3 : α3) (a4 : α4) (a5 : α5) (a6 : α6) (a7 : α7) (a8 : α8) (a9 : α9) (a10 : α10) (a11 : α11) (a12 : α12) (a13 : α13) (a14 : α14) (a15 : α15) (k : α1 → α2 → α3 → α4 → α5 → α6 → α7 → α8 → α9 → α10 → α11 → α12 → α13 → α14 → α15 → Option ρ) : xb15 (some (a1, a2, a3, a4, a5, a6, a7, a8, a9, a10, a11, a12, a13, a14, a15)) k = k a1 a2 a3 a4 a5 a6 a7 a8 a9 a10 a11 a12 a13 a14 a15 := rfl
theorem xb16_s {α1 α2 α3 α4 α5 α6 α7 α8 α9 α10 α11 α12 α13 α14 α15 α16 ρ : Type} (a1 : α1) (a2 : α2) (a3 : α3) (a4 : α4) (a5 : α5) (a6 : α6) (a7 : α7) (a8 : α8) (a9 : α9) (a10 : α10) (a11 : α11) (a12 : α12) (a13 : α13) (a14 : α14) (a15 : α15) (a16 : α16) (k : α1 → α2 → α3 → α4 → α5 → α6 → α7 → α8 → α9 → α10 → α11 → α12 → α13 → α14 → α15 → α16 → Option ρ) : xb16 (some (a1, a2, a3, a4, a5, a6, a7, a8, a9, a10, a11, a12, a13, a14, a15, a16)) k = k a1 a2 a3 a4 a5 a6 a7 a8 a9 a10 a11 a12 a13 a14 a15 a16 := rfl
theorem xb17_s {α1 α2 α3 α4 α5 α6 α7 α8 α9 α10 α11 α12 α13 α14 α15 α16 α17 ρ : Type} (a1 : α1) (a2 : α2) (a3 : α3) (a4 : α4) (a5 : α5) (a6 : α6) (a7 : α7) (a8 : α8) (a9 : α9) (a10 : α10) (a11 : α11) (a12 : α12) (a13 : α13) (a14 : α14) (a15 : α15) (a16 : α16) (a17 : α17) (k : α1 → α2 → α3 → α4 → α5 → α6 → α7 → α8 → α9 → α10 → α11 → α12 → α13 → α14 → α15 → α16 → α17 → Option ρ) : xb17 (some (a1, a2, a3, a4, a5, a6, a7, a8, a9, a10, a11, a12, a13, a14, a15, a16, a17)) k = k a1 a2 a3 a4 a5 a6 a7 a8 a9 a10 a11 a12 a13 a14 a15 a16 a17 := rfl
theorem xb18_s {α1 α2 α3 α4 α5 α6 α7 α8 α9 α10 α11 α12 α13 α14 α15 α16 α17 α18 ρ : Type} (a1 : α1) (a2 : α2) (a3 : α3) (a4 : α4) (a5 : α5) (a6 : α6) (a7 : α7) (a8 : α8) (a9 : α9) (a10 : α10) (a11 : α11) (a12 : α12) (a13 : α13) (a14 : α14) (a15 : α15) (a16 : α16) (a17 : α17) (a18 : α18) (k : α1 → α2 → α3 → α4 → α5 → α6 → α7 → α8 → α9 → α10 → α11 → α12 → α13 → α14 → α15 → α16 → α17 → α18 → Option ρ) : xb18 (some (a1, a2, a3, a4, a5, a6, a7, a8, a9, a10, a11, a12, a13, a14, a15, a16, a17, a18)) k = k a1 a2 a3 a4 a5 a6 a7 a8 a9 a10 a11 a12 a13 a14 a15 a16 a17 a18 := rfl
theorem xb19_s {α1 α2 α3 α4 α5 α6 α7 α8 α9 α10 α11 α12 α13 α14 α15 α16 α17 α18 α19 ρ : Type} (a1 : α1) (a2 : α2) (a3 : α3) (a4 : α4) (a5 : α5) (a6 : α6) (a7 : α7) (a8 : α8) (a9 : α9) (a10 : α10) (a11 : α11) (a12 : α12) (a13 : α13) (a14 : α14) (a15 : α15) (a16 : α16) (a17 : α17) (a18 : α18) (a19 : α19) (k : α1 → α2 → α3 → α4 → α5 → α6 → α7 → α8 → α9 → α10 → α11 → α12 → α13 → α14 → α15 → α16 → α17 → α18 → α19 → Option ρ) : xb19 (some (a1, a2, a3, a4, a5, a6, a7, a8, a9, a10, a11, a12, a13, a14, a15, a16, a17, a18, a19)) k = k a1 a2 a3 a4 a5 a6 a7 a8 a9 a10 a11 a12 a13 a14 a15 a16 a17 a18 a19 := rfl
theorem xb20_s {α1 α2 α3 α4 α5 α6 α7 α8 α9 α10 α11 α12 α13 α14 α15 α16 α17 α18 α19 α20 ρ : Type} (a1 : α1) (a2 : α2) (a3 : α3) (a4 : α4) (a5 : α5) (a6 : α6) (a7 : α7) (a8 : α8) (a9 : α9) (a10 : α10) (a11 : α11) (a12 : α12) (a13 : α13) (a14 : α14) (a15 : α15) (a16 : α16) (a17 : α17) (a18 : α18) (a19 : α19) (a20 : α20) (k : α1 → α2 → α3 → α4 → α5 → α6 → α7 → α8 → α9 → α10 → α11 → α12 → α13 → α14 → α15 → α16 → α17 → α18 → α19 → α20 → Option ρ) : xb20 (some (a1, a2, a3, a4, a5, a6, a7, a8, a9, a10, a11, a12, a13, a14, a15, a16, a17, a18, a19, a20)) k = k a1 a2 a3 a4 a5 a6 a7 a8 a9 a10 a11 a12 a13 a14 a15 a16 a17 a18 a19 a20 := rfl
theorem xb21_s {α1 α2 α3 α4 α5 α6 α7 α8 α9 α10 α11 α12 α13 α14 α15 α16 α17 α18 α19 α20 α21 ρ : Type} (a1 : α1) (a2 : α2) (a3 : α3) (a4 : α4) (a5 : α5) (a6 : α6) (a7 : α7) (a8 : α8) (a9 : α9) (a10 : α10) (a11 : α11) (a12 : α12) (a13 : α13) (a14 : α14) (a15 : α15) (a16 : α16) (a17 : α17) (a18 : α18) (a19 : α19) (a20 : α20) (a21 : α21) (k : α1 → α2 → α3 → α4 → α5 → α6 → α7 → α8 → α9 → α10 → α11 → α12 → α13 → α14 → α15 → α16 → α17 → α18 → α19 → α20 → α21 → Option ρ) : xb21 (some (a1, a2, a3, a4, a5, a6, a7, a8, a9, a10, a11, a12, a13, a14, a15, a16, a17, a18, a19, a20, a21)) k = k a1 a2 a3 a4 a5 a6 a7 a8 a9 a10 a11 a12 a13 a14 a15 a16 a17 a18 a19 a20 a21 := rfl
theorem xb22_s {α1 α2 α3 α4 α5 α6 α7 α8 α9 α10 α11 α12 α13 α14 α15 α16 α17 α18 α19 α20 α21 α22 ρ : Type} (a1 : α1) (a2 : α2) (a3 : α3) (a4 : α4) (a5 : α5) (a6 : α6) (a7 : α7) (a8 : α8) (a9 : α9) (a10 : α10) (a11 : α11) (a12 : α12) (a13 : α13) (a14 : α14) (a15 : α15) (a16 : α16) (a17 : α17) (a18 : α18) (a19 : α19) (a20 : α20) (a21 : α21) (a22 : α22) (k : α1 → α2 → α3 → α4 → α5 → α6 → α7 → α8 → α9 → α10 → α11 → α12 → α13 → α14 → α15 → α16 → α17 → α18 → α19 → α20 → α21 → α22 → Option ρ) : xb22 (some (a1, a2, a3, a4, a5, a6, a7, a8, a9, a10, a11, a12, a13, a14, a15, a16, a17, a18, a19, a20, a21, a22)) k = k a1 a2 a3 a4 a5 a6 a7 a8 a9 a10 a11 a12 a13 a14 a15 a16 a17 a18 a19 a20 a21 a22 := rfl
theorem xb23_s {α1 α2 α3 α4 α5 α6 α7 α8 α9 α10 α11 α12 α13 α14 α15 α16 α17 α18 α19 α20 α21 α22 α23 ρ : Type} (a1 : α1) (a2 : α2) (a3 : α3) (a4 : α4) (a5 : α5) (a6 : α6) (a7 : α7) (a8 : α8) (a9 : α9) (a10 : α10) (a11 : α11) (a12 : α12) (a13 : α13) (a14 : α14) (a15 : α15) (a16 : α16) (a17 : α17) (a18 : α18) (a19 : α19) (a20 : α20) (a21 : α21) (a22 : α22) (a23 : α23) (k : α1 → α2 → α3 → α4 → α5 → α6 → α7 → α8 → α9 → α10 → α11 → α12 → α13 → α14 → α15 → α16 → α17 → α18 → α19 → α20 → α21 → α22 → α23 → Option ρ) : xb23 (some (a1, a2, a3, a4, a5, a6, a7, a8, a9, a10, a11, a12, a13, a14, a15, a16, a17, a18, a19, a20, a21, a22, a23)) k = k a1 a2 a3 a4 a5 a6 a7 a8 a9 a10 a11 a12 a13 a14 a15 a16 a17 a18 a19 a20 a21 a22 a23 := rfl
-- texts
def yb (r : Int32) : Prop := r = 0 ∨ r = 1
def TX (len : Nat) (T1 F8 : xF32) : Prop := len ≤ 70 ∧ ∀ k, k < len → T1 k = F8 k ∧ 32 ≤ (F8 k).toInt ∧ (F8 k).toInt ≤ 126
theorem t_sign {len : Nat} {T1 F8 : xF32} (h : TX len T1 F8) {p : Nat} (hp : p ≤ len) : ∃ a b, f_X6_signAhead (nI len) T1 (nI p) = some a ∧ f_X8_here F8 (nI p) (nI len) = some b ∧ ((p = len ∧ a = 0 ∧ b = -1) ∨ (p < len ∧ a = b ∧ 32 ≤ b.toInt ∧ b.toInt ≤ 126)) := by
  have hl := h.1
  by_cases c : p = len
  · refine ⟨0, -1, ?_, ?_, .inl ⟨c, rfl, rfl⟩⟩
    · simp (disch := omega) only [f_X6_signAhead, y_le_t, if_true]
    · simp (disch := omega) only [f_X8_here, y_le_t, if_true]
  · obtain ⟨e1, e2, e3⟩ := h.2 p (by omega)
    refine ⟨F8 p, F8 p, ?_, ?_, .inr ⟨by omega, rfl, e2, e3⟩⟩
    · simp (disch := omega) only [f_X6_signAhead, y_nge, if_false, y_in, xk_t, y_cl, e1]
    · simp (disch := omega) only [f_X8_here, y_nge, if_false, y_in, xk_t, y_cl]
theorem t_sg {len p : Nat} {a b x : Int32} (h : (p = len ∧ a = 0 ∧ b = -1) ∨ (p < len ∧ a = b ∧ 32 ≤ b.toInt ∧ b.toInt ≤ 126)) (hx : 1 ≤ x.toInt) : (a = x ∧ b = x ∧ p < len) ∨ (¬ a = x ∧ ¬ b = x) := by
  rcases h with ⟨h1, h2, h3⟩ | ⟨h1, h2, h3⟩
  · refine .inr ⟨fun q => ?_, fun q => ?_⟩
    · rw [← q, h2] at hx; exact absurd hx (by decide)
    · rw [← q, h3] at hx; exact absurd hx (by decide)
  · subst h2
    by_cases c : a = x
    · exact .inl ⟨c, c, h1⟩
    · exact .inr ⟨c, c⟩
theorem t_must {len : Nat} {T1 F8 : xF32} (h : TX len T1 F8) {p : Nat} (hp : p ≤ len) {r : Int32} (hr : yb r) {x : Int32} (hx : 1 ≤ x.toInt) : ∃ p' r', f_X6_takeSign x (nI len) T1 (nI p) r = some (nI p', r') ∧ f_X8_must x F8 (nI p) (nI len) r = some (nI p', r') ∧ p ≤ p' ∧ p' ≤ len ∧ yb r' ∧ (r' = 1 → r = 1 ∧ p' = p + 1) := by
  have hl := h.1
  have z : nI p + 0 = nI p := nI_add p 0
  obtain ⟨a, b, h1, h2, h3⟩ := t_sign h hp
  rcases hr with rfl | rfl
  · refine ⟨p, 0, ?_, ?_, Nat.le_refl _, hp, .inl rfl, fun q => absurd q (by decide)⟩
    · rw [f_X6_takeSign, if_pos rfl]
    · rw [f_X8_must, if_pos rfl, z]
  · have o : ¬ (1 : Int32) = 0 := by decide
    rcases t_sg h3 hx with ⟨e1, e2, e3⟩ | ⟨e1, e2⟩
    · refine ⟨p + 1, 1, ?_, ?_, by omega, by omega, .inr rfl, fun _ => ⟨rfl, rfl⟩⟩
      · rw [f_X6_takeSign, if_neg o, h1, xb1_s, if_pos e1, nI_1]
      · rw [f_X8_must, if_neg o, h2, xb1_s, if_pos e2, nI_1]
    · refine ⟨p, 0, ?_, ?_, Nat.le_refl _, hp, .inl rfl, fun q => absurd q (by decide)⟩
      · rw [f_X6_takeSign, if_neg o, h1, xb1_s, if_neg e1, z]
      · rw [f_X8_must, if_neg o, h2, xb1_s, if_neg e2, z]
/-- a digit ahead -/
theorem t_dig {len : Nat} {T1 F8 : xF32} (h : TX len T1 F8) {p : Nat} (hp : p ≤ len) : (∃ a, f_X6_signAhead (nI len) T1 (nI p) = some a ∧ f_X8_here F8 (nI p) (nI len) = some a ∧ f_X6_isDigitAhead (nI len) T1 (nI p) = some 1 ∧ f_X8_in a 48 57 = some 1 ∧ p < len) ∨ ∃ b, f_X8_here F8 (nI p) (nI len) = some b ∧ f_X6_isDigitAhead (nI len) T1 (nI p) = some 0 ∧ f_X8_in b 48 57 = some 0 := by
  obtain ⟨a, b, h1, h2, h3⟩ := t_sign h hp
  have ei : ∀ z : Int32, f_X7_isWithin z 48 57 = f_X8_in z 48 57 := fun z => rfl
  rcases h3 with ⟨g1, rfl, rfl⟩ | ⟨g1, rfl, g2, g3⟩
  · refine .inr ⟨-1, h2, ?_, rfl⟩
    rw [f_X6_isDigitAhead, h1, xb1_s]
    rfl
  · have hc : f_X8_in a 48 57 = some 1 ∨ f_X8_in a 48 57 = some 0 := by
      unfold f_X8_in
      by_cases c1 : a < 48
      · rw [if_pos c1]; exact .inr rfl
      · rw [if_neg c1]
        by_cases c2 : 57 < a
        · rw [if_pos c2]; exact .inr rfl
        · rw [if_neg c2]; exact .inl rfl
    rcases hc with hc | hc
    · refine .inl ⟨a, h1, h2, ?_, hc, g1⟩
      rw [f_X6_isDigitAhead, h1, xb1_s, ei, hc, xb1_s, y_isb1, xk_t]
    · refine .inr ⟨a, h2, ?_, hc⟩
      rw [f_X6_isDigitAhead, h1, xb1_s, ei, hc, xb1_s, y_isb0, xk_t]
theorem t_numl {fu len d : Nat} {T1 F8 : xF32} (h : TX len T1 F8) (hd : d ≤ 9) : ∀ j i p m (v : Int32), i + j = d → j < m → p ≤ len → ∃ v' p', f_X6_takeNumber_21 fu (nI len) T1 m (nI d) v (nI i) (nI p) 1 = some (v', nI p', 1) ∧ f_X8_number_34 fu F8 (nI len) m (nI d) v (nI i) (nI p) 1 = some (v', nI p', 1) ∧ p ≤ p' ∧ p' ≤ len := by
  have hl := h.1
  have o : ¬ (1 : Int32) = 0 := by decide
  intro j
  induction j with
  | zero =>
    intro i p m v hi hm hp
    obtain ⟨m, rfl⟩ : ∃ m', m = m' + 1 := ⟨m - 1, by omega⟩
    have hi' : i = d := by omega
    subst hi'
    refine ⟨v, p, ?_, ?_, Nat.le_refl _, hp⟩
    · rw [f_X6_takeNumber_21, if_pos (y_self (by omega))]
    · rw [f_X8_number_34, if_pos (y_self (by omega))]
  | succ j ih =>
    intro i p m v hi hm hp
    obtain ⟨m, rfl⟩ : ∃ m', m = m' + 1 := ⟨m - 1, by omega⟩
    rcases t_dig h hp with ⟨a, h1, h2, h3, h4, h5⟩ | ⟨b, h2, h3, h4⟩
    · obtain ⟨v', p', g1, g2, g3, g4⟩ := ih (i + 1) (p + 1) m (v * 10 + a - 48) (by omega) (by omega) (by omega)
      have ec : 10 * v + a - 48 = v * 10 + a - 48 := by rw [Int32.mul_comm]
      refine ⟨v', p', ?_, ?_, by omega, g4⟩
      · rw [← g1, f_X6_takeNumber_21, if_neg (nI_ge (by omega) (by omega)), h3, xb1_s, if_neg o, h1, xb1_s, nI_1, nI_1]
      · rw [← g2, f_X8_number_34, if_neg (nI_ge (by omega) (by omega)), if_neg o, h2, xb1_s, h4, xb1_s, if_neg o, xb1_s, ec, nI_1, nI_1]
    · refine ⟨v, p, ?_, ?_, Nat.le_refl _, hp⟩
      · rw [f_X6_takeNumber_21, if_neg (nI_ge (by omega) (by omega)), h3, xb1_s, if_pos rfl]
      · rw [f_X8_number_34, if_neg (nI_ge (by omega) (by omega)), if_neg o, h2, xb1_s, h4, xb1_s, if_pos rfl]
theorem t_num {fu len d : Nat} (hfu : 40 < fu) {T1 F8 : xF32} (h : TX len T1 F8) (hd : d ≤ 9) (hd1 : 1 ≤ d) {p : Nat} (hp : p ≤ len) {r : Int32} (hr : yb r) : ∃ v p' r', f_X6_takeNumber fu (nI d) (nI len) T1 (nI p) r = some (v, nI p', r') ∧ f_X8_number fu (nI d) F8 (nI p) (nI len) r = some (v, nI p', r') ∧ p ≤ p' ∧ p' ≤ len ∧ yb r' ∧ (r' = 1 → r = 1) := by
  have hl := h.1
  have o : ¬ (1 : Int32) = 0 := by decide
  have e0 : f_X8_number_34 fu F8 (nI len) fu (nI d) 0 0 (nI p) 0 = some (0, nI p, 0) := by
    obtain ⟨m, hm⟩ : ∃ m', fu = m' + 1 := ⟨fu - 1, by omega⟩
    have : f_X8_number_34 fu F8 (nI len) (m + 1) (nI d) 0 0 (nI p) 0 = some (0, nI p, 0) := by
      rw [f_X8_number_34, if_neg (nI_nle hd1 (by omega)), if_pos rfl]
    rw [← hm] at this
    exact this
  rcases hr with rfl | rfl
  · refine ⟨0, p, 0, ?_, ?_, Nat.le_refl _, hp, .inl rfl, fun q => absurd q (by decide)⟩
    · rw [f_X6_takeNumber, if_pos rfl]
    · rw [f_X8_number, if_pos rfl, e0]
  · rcases t_dig h hp with ⟨a, h1, h2, h3, h4, h5⟩ | ⟨b, h2, h3, h4⟩
    · obtain ⟨v', p', g1, g2, g3, g4⟩ := t_numl (fu := fu) h hd d 0 p fu 0 (by omega) (by omega) hp
      refine ⟨v', p', 1, ?_, ?_, g3, g4, .inr rfl, fun _ => rfl⟩
      · rw [f_X6_takeNumber, if_neg o, h3, xb1_s, y_isb1, xk_t]
        exact g1
      · rw [f_X8_number, if_neg o, h2, xb1_s, h4, xb1_s, if_neg o]
        exact g2
    · refine ⟨0, p, 0, ?_, ?_, Nat.le_refl _, hp, .inl rfl, fun q => absurd q (by decide)⟩
      · obtain ⟨m, hm⟩ : ∃ m', fu = m' + 1 := ⟨fu - 1, by omega⟩
        have : f_X6_takeNumber_21 fu (nI len) T1 (m + 1) (nI d) 0 0 (nI p) 0 = some (0, nI p, 0) := by
          rw [f_X6_takeNumber_21, if_neg (nI_nle hd1 (by omega)), h3, xb1_s, if_pos rfl]
        rw [← hm] at this
        rw [f_X6_takeNumber, if_neg o, h3, xb1_s, y_isb0, xk_t]
        exact this
      · rw [f_X8_number, if_neg o, h2, xb1_s, h4, xb1_s, if_pos rfl, e0]
theorem t_133 {fu len : Nat} {T1 F8 : xF32} (h : TX len T1 F8) {p : Nat} (hp : p ≤ len) {r : Int32} (hr : yb r) : ∃ p' r', (∀ T5 T6 T7 T8, j_X6_parseCommand_133 fu (nI len) T1 (nI p) r T5 T6 T7 T8 = some (nI p', r', T5, T6, T7, T8)) ∧ (∀ F16 F17 e, j_X8_readsEntry_210 fu F8 (nI len) (nI p) r F16 F17 (nI e) = some (nI p', r', F16, F17, nI (e + 1))) ∧ p' ≤ len ∧ yb r' ∧ (r' = 1 → r = 1 ∧ p' = p + 1) := by
  obtain ⟨p', r', g1, g2, g3, g4, g5, g6⟩ := t_must h hp hr (x := 59) (by decide)
  refine ⟨p', r', fun T5 T6 T7 T8 => ?_, fun F16 F17 e => ?_, g4, g5, g6⟩
  · rw [j_X6_parseCommand_133, g1, xb2_s]
  · rw [j_X8_readsEntry_210, g2, xb2_s, nI_1]
theorem t_103 {fu len e : Nat} (hfu : 40 < fu) {T1 F8 : xF32} (h : TX len T1 F8) (he : e < 35) {p : Nat} (hp : p ≤ len) {r : Int32} (hr : yb r) (k : Int32) (T5 T6 T7 T8 F16 F17 : xF32) : ∃ p' r' T8' F17', j_X6_parseCommand_103 fu (nI len) T1 (nI e) k (nI p) r T5 T6 T7 T8 = some (nI p', r', T5, T6, T7, T8') ∧ j_X8_readsEntry_178 fu F8 (nI len) (nI (3 * e)) k (nI p) r F16 F17 (nI e) = some (nI p', r', F16, F17', nI (e + 1)) ∧ p' ≤ len ∧ yb r' ∧ (r' = 1 → r = 1 ∧ p + 1 ≤ p') ∧ (¬ k = 103 → ¬ k = 110 → T8' e = F17' (3 * e + 2)) ∧ (∀ j, j ≠ e → T8' j = T8 j) ∧ (∀ j, j ≠ 3 * e + 2 → F17' j = F17 j) := by
  by_cases c : k = 103 ∨ k = 110
  · obtain ⟨p', r', g1, g2, g3, g4, g5⟩ := t_133 (fu := fu) h hp hr
    refine ⟨p', r', T8, F17, ?_, ?_, g3, g4, fun q => ⟨(g5 q).1, by have := (g5 q).2; omega⟩, fun q1 q2 => (c.elim q1 q2).elim, fun _ _ => rfl, fun _ _ => rfl⟩
    · rw [j_X6_parseCommand_103]
      by_cases c1 : k = 103
      · rw [if_pos c1, g1]
      · rw [if_neg c1, if_pos (c.resolve_left c1), g1]
    · rw [j_X8_readsEntry_178]
      by_cases c1 : k = 103
      · rw [if_pos c1, g2]
      · rw [if_neg c1, if_pos (c.resolve_left c1), g2]
  · have c1 : ¬ k = 103 := fun q => c (.inl q)
    have c2 : ¬ k = 110 := fun q => c (.inr q)
    obtain ⟨p1, r1, a1, a2, a3, a4, a5, a6⟩ := t_must h hp hr (x := 58) (by decide)
    obtain ⟨v, p2, r2, b1, b2, b3, b4, b5, b6⟩ := t_num (d := 9) hfu h (by omega) (by omega) a4 a5
    obtain ⟨p', r', g1, g2, g3, g4, g5⟩ := t_133 (fu := fu) h b4 b5
    have b1' : f_X6_takeNumber fu 9 (nI len) T1 (nI p1) r1 = some (v, nI p2, r2) := b1
    have b2' : f_X8_number fu 9 F8 (nI p1) (nI len) r1 = some (v, nI p2, r2) := b2
    have e2 : nI (3 * e) + 2 = nI (3 * e + 2) := nI_add (3 * e) 2
    refine ⟨p', r', upd T8 e v, upd F17 (3 * e + 2) v, ?_, ?_, g3, g4, fun q => ⟨(a6 (b6 (g5 q).1)).1, ?_⟩, fun _ _ => by rw [pk_us, pk_us], fun j hj => pk_un hj, fun j hj => pk_un hj⟩
    · rw [j_X6_parseCommand_103, if_neg c1, if_neg c2, a1, xb2_s, b1', xb3_s, y_xk (y_in (by omega) (by omega)), y_cl (by omega), g1]
    · rw [j_X8_readsEntry_178, if_neg c1, if_neg c2, a2, xb2_s, b2', xb3_s, e2, y_xk (y_in (by omega) (by omega)), y_cl (by omega), g2]
    · have := (g5 q).2
      have := (a6 (b6 (g5 q).1)).2
      omega
theorem t_74 {fu len e : Nat} (hfu : 40 < fu) {T1 F8 : xF32} (h : TX len T1 F8) (he : e < 35) {p : Nat} (hp : p ≤ len) {r : Int32} (hr : yb r) (k : Int32) (T5 T6 T7 T8 F16 F17 : xF32) : ∃ p' r' T7' T8' F17', j_X6_parseCommand_74 fu (nI len) T1 (nI e) k (nI p) r T5 T6 T7 T8 = some (nI p', r', T5, T6, T7', T8') ∧ j_X8_readsEntry_147 fu F8 (nI len) (nI (3 * e)) k (nI p) r F16 F17 (nI e) = some (nI p', r', F16, F17', nI (e + 1)) ∧ p' ≤ len ∧ yb r' ∧ (r' = 1 → r = 1 ∧ p + 1 ≤ p') ∧ (¬ k = 103 → ¬ k = 110 → T8' e = F17' (3 * e + 2)) ∧ (k = 99 ∨ k = 115 → T7' e = F17' (3 * e + 1)) ∧ (∀ j, j ≠ e → T7' j = T7 j ∧ T8' j = T8 j) ∧ (∀ j, j ≠ 3 * e + 1 → j ≠ 3 * e + 2 → F17' j = F17 j) := by
  have h86 : ∃ p' r' T7' T8' F17', j_X6_parseCommand_86 fu (nI len) T1 (nI e) k (nI p) r T5 T6 T7 T8 = some (nI p', r', T5, T6, T7', T8') ∧ j_X8_readsEntry_159 fu F8 (nI len) (nI (3 * e)) k (nI p) r F16 F17 (nI e) = some (nI p', r', F16, F17', nI (e + 1)) ∧ p' ≤ len ∧ yb r' ∧ (r' = 1 → r = 1 ∧ p + 1 ≤ p') ∧ (¬ k = 103 → ¬ k = 110 → T8' e = F17' (3 * e + 2)) ∧ (k = 99 ∨ k = 115 → T7' e = F17' (3 * e + 1)) ∧ (∀ j, j ≠ e → T7' j = T7 j ∧ T8' j = T8 j) ∧ (∀ j, j ≠ 3 * e + 1 → j ≠ 3 * e + 2 → F17' j = F17 j) := by
    obtain ⟨p1, r1, a1, a2, a3, a4, a5, a6⟩ := t_must h hp hr (x := 62) (by decide)
    obtain ⟨v, p2, r2, b1, b2, b3, b4, b5, b6⟩ := t_num (d := 1) hfu h (by omega) (by omega) a4 a5
    obtain ⟨p', r', T8', F17', g1, g2, g3, g4, g5, g6, g7, g8⟩ := t_103 hfu h he b4 b5 k T5 T6 (upd T7 e v) T8 F16 (upd F17 (3 * e + 1) v)
    have b1' : f_X6_takeNumber fu 1 (nI len) T1 (nI p1) r1 = some (v, nI p2, r2) := b1
    have b2' : f_X8_number fu 1 F8 (nI p1) (nI len) r1 = some (v, nI p2, r2) := b2
    refine ⟨p', r', upd T7 e v, T8', F17', ?_, ?_, g3, g4, fun q => ⟨(a6 (b6 (g5 q).1)).1, ?_⟩, g6, fun _ => by rw [pk_us, g8 _ (by omega), pk_us], fun j hj => ⟨pk_un hj, g7 j hj⟩, fun j hj1 hj2 => by rw [g8 j hj2, pk_un hj1]⟩
    · rw [j_X6_parseCommand_86, a1, xb2_s, b1', xb3_s, y_xk (y_in (by omega) (by omega)), y_cl (by omega), g1]
    · rw [j_X8_readsEntry_159, a2, xb2_s, b2', xb3_s, nI_1, y_xk (y_in (by omega) (by omega)), y_cl (by omega), g2]
    · have := (g5 q).2
      have := (a6 (b6 (g5 q).1)).2
      omega
  by_cases c : k = 99 ∨ k = 115
  · obtain ⟨p', r', T7', T8', F17', g1, g2, g3⟩ := h86
    refine ⟨p', r', T7', T8', F17', ?_, ?_, g3⟩
    · rw [j_X6_parseCommand_74]
      by_cases c1 : k = 99
      · rw [if_pos c1, g1]
      · rw [if_neg c1, if_pos (c.resolve_left c1), g1]
    · rw [j_X8_readsEntry_147]
      by_cases c1 : k = 99
      · rw [if_pos c1, g2]
      · rw [if_neg c1, if_pos (c.resolve_left c1), g2]
  · have c1 : ¬ k = 99 := fun q => c (.inl q)
    have c2 : ¬ k = 115 := fun q => c (.inr q)
    obtain ⟨p', r', T8', F17', g1, g2, g3, g4, g5, g6, g7, g8⟩ := t_103 hfu h he hp hr k T5 T6 T7 T8 F16 F17
    refine ⟨p', r', T7, T8', F17', ?_, ?_, g3, g4, g5, g6, fun q => (c q).elim, fun j hj => ⟨rfl, g7 j hj⟩, fun j _ hj => g8 j hj⟩
    · rw [j_X6_parseCommand_74, if_neg c1, if_neg c2, g1]
    · rw [j_X8_readsEntry_147, if_neg c1, if_neg c2, g2]
/-- the fields of a command that its kind uses -/
def TE (e : Nat) (T5 T6 T7 T8 F16 F17 : xF32) : Prop := T5 e = F16 e ∧ (¬ T5 e = 103 → T6 e = F17 (3 * e)) ∧ (T5 e = 99 ∨ T5 e = 115 → T7 e = F17 (3 * e + 1)) ∧ (¬ T5 e = 103 → ¬ T5 e = 110 → T8 e = F17 (3 * e + 2))
def TKs (k : Int32) : Prop := k = 97 ∨ k = 99 ∨ k = 100 ∨ k = 103 ∨ k = 110 ∨ k = 112 ∨ k = 115 ∨ k = 119
def TP (fu len e p : Nat) (T1 F8 T5 T6 T7 T8 F16 F17 : xF32) (z : Int32) : Prop := ∃ p' r' T5' T6' T7' T8' F16' F17' e', f_X6_parseCommand fu (nI e) (nI len) T1 (nI p) 1 T5 T6 T7 T8 = some (nI p', r', T5', T6', T7', T8') ∧ f_X8_readsEntry fu F8 (nI p) (nI len) z F16 F17 (nI e) = some (nI p', r', F16', F17', e') ∧ p' ≤ len ∧ yb r' ∧ (r' = 1 → p + 2 ≤ p' ∧ e' = nI (e + 1) ∧ TE e T5' T6' T7' T8' F16' F17' ∧ TKs (T5' e)) ∧ (∀ j, j ≠ e → T5' j = T5 j ∧ T6' j = T6 j ∧ T7' j = T7 j ∧ T8' j = T8 j ∧ F16' j = F16 j) ∧ (∀ j, j < 3 * e → F17' j = F17 j)
theorem t_k97 {fu len e p : Nat} (hfu : 40 < fu) {T1 F8 : xF32} (h : TX len T1 F8) (he : e < 35) (hp : p < len) (z : Int32) (T5 T6 T7 T8 F16 F17 : xF32) (hA : f_X6_signAhead (nI len) T1 (nI p) = some 97) (hB : f_X8_here F8 (nI p) (nI len) = some 97) : TP fu len e p T1 F8 T5 T6 T7 T8 F16 F17 z := by
  have hl := h.1
  have hk : f_X6_isKind 97 = some 1 := by decide
  have x35 : xin (nI e) 35 = true := y_in he (by omega)
  have x36 : xin (nI e) 36 = true := y_in (by omega) (by omega)
  have e3 : 3 * nI e = nI (3 * e) := pk_mul 3 e
  have x108 : xin (nI (3 * e)) 108 = true := y_in (by omega) (by omega)
  have o99 : ((97 : Int32) = 99) = False := eq_false (by decide)
  have o100 : ((97 : Int32) = 100) = False := eq_false (by decide)
  have o103 : ((97 : Int32) = 103) = False := eq_false (by decide)
  have o110 : ((97 : Int32) = 110) = False := eq_false (by decide)
  have o112 : ((97 : Int32) = 112) = False := eq_false (by decide)
  have o115 : ((97 : Int32) = 115) = False := eq_false (by decide)
  have o119 : ((97 : Int32) = 119) = False := eq_false (by decide)
  obtain ⟨v, p2, r2, b1, b2, b3, b4, b5, b6⟩ := t_num (fu := fu) (p := p + 1) (d := 3) hfu h (by omega) (by omega) (by omega) (.inr rfl)
  have b1' : f_X6_takeNumber fu 3 (nI len) T1 (nI (p + 1)) 1 = some (v, nI p2, r2) := b1
  have b2' : f_X8_number fu 3 F8 (nI (p + 1)) (nI len) 1 = some (v, nI p2, r2) := b2
  obtain ⟨p', r', T7', T8', F17', g1, g2, g3, g4, g5, g6, g7, g8, g9⟩ := t_74 (fu := fu) hfu h he b4 b5 97 (upd T5 e 97) (upd T6 e v) T7 T8 (upd F16 e 97) (upd F17 (3 * e) v)
  refine ⟨p', r', upd T5 e 97, upd T6 e v, T7', T8', upd F16 e 97, F17', nI (e + 1), ?_, ?_, g3, g4, fun q => ⟨by have := (g5 q).2; omega, rfl, ⟨by rw [pk_us, pk_us], fun q => by rw [pk_us, g9 _ (by omega) (by omega), pk_us], fun q => g7 (by rw [pk_us] at q; exact q), fun q1 q2 => g6 (by rw [pk_us] at q1; exact q1) (by rw [pk_us] at q2; exact q2)⟩, by rw [pk_us]; unfold TKs; decide⟩, fun j hj => ⟨pk_un hj, pk_un hj, (g8 j hj).1, (g8 j hj).2, pk_un hj⟩, fun j hj => by rw [g9 j (by omega) (by omega), pk_un (by omega)]⟩
  · simp only [f_X6_parseCommand, hA, xb1_s, x35, xk_t, hk, y_10, o99, o100, o103, o110, o112, o115, o119, if_false, if_true, y_cl (show e < 2 ^ 31 by omega), nI_1, b1', xb3_s]
    exact g1
  · simp only [f_X8_readsEntry, hB, xb1_s, x36, xk_t, o99, o100, o103, o110, o112, o115, o119, if_false, if_true, y_cl (show e < 2 ^ 31 by omega), nI_1, e3, b2', xb3_s, x108, y_cl (show 3 * e < 2 ^ 31 by omega)]
    exact g2
theorem t_k99 {fu len e p : Nat} (hfu : 40 < fu) {T1 F8 : xF32} (h : TX len T1 F8) (he : e < 35) (hp : p < len) (z : Int32) (T5 T6 T7 T8 F16 F17 : xF32) (hA : f_X6_signAhead (nI len) T1 (nI p) = some 99) (hB : f_X8_here F8 (nI p) (nI len) = some 99) : TP fu len e p T1 F8 T5 T6 T7 T8 F16 F17 z := by
  have hl := h.1
  have hk : f_X6_isKind 99 = some 1 := by decide
  have x35 : xin (nI e) 35 = true := y_in he (by omega)
  have x36 : xin (nI e) 36 = true := y_in (by omega) (by omega)
  have e3 : 3 * nI e = nI (3 * e) := pk_mul 3 e
  have x108 : xin (nI (3 * e)) 108 = true := y_in (by omega) (by omega)
  have o97 : ((99 : Int32) = 97) = False := eq_false (by decide)
  have o100 : ((99 : Int32) = 100) = False := eq_false (by decide)
  have o103 : ((99 : Int32) = 103) = False := eq_false (by decide)
  have o110 : ((99 : Int32) = 110) = False := eq_false (by decide)
  have o112 : ((99 : Int32) = 112) = False := eq_false (by decide)
  have o115 : ((99 : Int32) = 115) = False := eq_false (by decide)
  have o119 : ((99 : Int32) = 119) = False := eq_false (by decide)
  obtain ⟨v, p2, r2, b1, b2, b3, b4, b5, b6⟩ := t_num (fu := fu) (p := p + 1) (d := 1) hfu h (by omega) (by omega) (by omega) (.inr rfl)
  have b1' : f_X6_takeNumber fu 1 (nI len) T1 (nI (p + 1)) 1 = some (v, nI p2, r2) := b1
  have b2' : f_X8_number fu 1 F8 (nI (p + 1)) (nI len) 1 = some (v, nI p2, r2) := b2
  obtain ⟨p', r', T7', T8', F17', g1, g2, g3, g4, g5, g6, g7, g8, g9⟩ := t_74 (fu := fu) hfu h he b4 b5 99 (upd T5 e 99) (upd T6 e v) T7 T8 (upd F16 e 99) (upd F17 (3 * e) v)
  refine ⟨p', r', upd T5 e 99, upd T6 e v, T7', T8', upd F16 e 99, F17', nI (e + 1), ?_, ?_, g3, g4, fun q => ⟨by have := (g5 q).2; omega, rfl, ⟨by rw [pk_us, pk_us], fun q => by rw [pk_us, g9 _ (by omega) (by omega), pk_us], fun q => g7 (by rw [pk_us] at q; exact q), fun q1 q2 => g6 (by rw [pk_us] at q1; exact q1) (by rw [pk_us] at q2; exact q2)⟩, by rw [pk_us]; unfold TKs; decide⟩, fun j hj => ⟨pk_un hj, pk_un hj, (g8 j hj).1, (g8 j hj).2, pk_un hj⟩, fun j hj => by rw [g9 j (by omega) (by omega), pk_un (by omega)]⟩
  · simp only [f_X6_parseCommand, hA, xb1_s, x35, xk_t, hk, y_10, o97, o100, o103, o110, o112, o115, o119, if_false, if_true, y_cl (show e < 2 ^ 31 by omega), nI_1, b1', xb3_s]
    exact g1
  · simp only [f_X8_readsEntry, hB, xb1_s, x36, xk_t, o97, o100, o103, o110, o112, o115, o119, if_false, if_true, y_cl (show e < 2 ^ 31 by omega), nI_1, e3, b2', xb3_s, x108, y_cl (show 3 * e < 2 ^ 31 by omega)]
    exact g2
theorem t_k100 {fu len e p : Nat} (hfu : 40 < fu) {T1 F8 : xF32} (h : TX len T1 F8) (he : e < 35) (hp : p < len) (z : Int32) (T5 T6 T7 T8 F16 F17 : xF32) (hA : f_X6_signAhead (nI len) T1 (nI p) = some 100) (hB : f_X8_here F8 (nI p) (nI len) = some 100) : TP fu len e p T1 F8 T5 T6 T7 T8 F16 F17 z := by
  have hl := h.1
  have hk : f_X6_isKind 100 = some 1 := by decide
  have x35 : xin (nI e) 35 = true := y_in he (by omega)
  have x36 : xin (nI e) 36 = true := y_in (by omega) (by omega)
  have e3 : 3 * nI e = nI (3 * e) := pk_mul 3 e
  have x108 : xin (nI (3 * e)) 108 = true := y_in (by omega) (by omega)
  have o97 : ((100 : Int32) = 97) = False := eq_false (by decide)
  have o99 : ((100 : Int32) = 99) = False := eq_false (by decide)
  have o103 : ((100 : Int32) = 103) = False := eq_false (by decide)
  have o110 : ((100 : Int32) = 110) = False := eq_false (by decide)
  have o112 : ((100 : Int32) = 112) = False := eq_false (by decide)
  have o115 : ((100 : Int32) = 115) = False := eq_false (by decide)
  have o119 : ((100 : Int32) = 119) = False := eq_false (by decide)
  obtain ⟨v, p2, r2, b1, b2, b3, b4, b5, b6⟩ := t_num (fu := fu) (p := p + 1) (d := 3) hfu h (by omega) (by omega) (by omega) (.inr rfl)
  have b1' : f_X6_takeNumber fu 3 (nI len) T1 (nI (p + 1)) 1 = some (v, nI p2, r2) := b1
  have b2' : f_X8_number fu 3 F8 (nI (p + 1)) (nI len) 1 = some (v, nI p2, r2) := b2
  obtain ⟨p', r', T7', T8', F17', g1, g2, g3, g4, g5, g6, g7, g8, g9⟩ := t_74 (fu := fu) hfu h he b4 b5 100 (upd T5 e 100) (upd T6 e v) T7 T8 (upd F16 e 100) (upd F17 (3 * e) v)
  refine ⟨p', r', upd T5 e 100, upd T6 e v, T7', T8', upd F16 e 100, F17', nI (e + 1), ?_, ?_, g3, g4, fun q => ⟨by have := (g5 q).2; omega, rfl, ⟨by rw [pk_us, pk_us], fun q => by rw [pk_us, g9 _ (by omega) (by omega), pk_us], fun q => g7 (by rw [pk_us] at q; exact q), fun q1 q2 => g6 (by rw [pk_us] at q1; exact q1) (by rw [pk_us] at q2; exact q2)⟩, by rw [pk_us]; unfold TKs; decide⟩, fun j hj => ⟨pk_un hj, pk_un hj, (g8 j hj).1, (g8 j hj).2, pk_un hj⟩, fun j hj => by rw [g9 j (by omega) (by omega), pk_un (by omega)]⟩
  · simp only [f_X6_parseCommand, hA, xb1_s, x35, xk_t, hk, y_10, o97, o99, o103, o110, o112, o115, o119, if_false, if_true, y_cl (show e < 2 ^ 31 by omega), nI_1, b1', xb3_s]
    exact g1
  · simp only [f_X8_readsEntry, hB, xb1_s, x36, xk_t, o97, o99, o103, o110, o112, o115, o119, if_false, if_true, y_cl (show e < 2 ^ 31 by omega), nI_1, e3, b2', xb3_s, x108, y_cl (show 3 * e < 2 ^ 31 by omega)]
    exact g2
theorem t_k103 {fu len e p : Nat} (hfu : 40 < fu) {T1 F8 : xF32} (h : TX len T1 F8) (he : e < 35) (hp : p < len) (z : Int32) (T5 T6 T7 T8 F16 F17 : xF32) (hA : f_X6_signAhead (nI len) T1 (nI p) = some 103) (hB : f_X8_here F8 (nI p) (nI len) = some 103) : TP fu len e p T1 F8 T5 T6 T7 T8 F16 F17 z := by
  have hl := h.1
  have hk : f_X6_isKind 103 = some 1 := by decide
  have x35 : xin (nI e) 35 = true := y_in he (by omega)
  have x36 : xin (nI e) 36 = true := y_in (by omega) (by omega)
  have e3 : 3 * nI e = nI (3 * e) := pk_mul 3 e
  have x108 : xin (nI (3 * e)) 108 = true := y_in (by omega) (by omega)
  have o97 : ((103 : Int32) = 97) = False := eq_false (by decide)
  have o99 : ((103 : Int32) = 99) = False := eq_false (by decide)
  have o100 : ((103 : Int32) = 100) = False := eq_false (by decide)
  have o110 : ((103 : Int32) = 110) = False := eq_false (by decide)
  have o112 : ((103 : Int32) = 112) = False := eq_false (by decide)
  have o115 : ((103 : Int32) = 115) = False := eq_false (by decide)
  have o119 : ((103 : Int32) = 119) = False := eq_false (by decide)
  obtain ⟨p', r', T7', T8', F17', g1, g2, g3, g4, g5, g6, g7, g8, g9⟩ := t_74 (fu := fu) (p := p + 1) hfu h he (by omega) (.inr rfl) 103 (upd T5 e 103) T6 T7 T8 (upd F16 e 103) F17
  refine ⟨p', r', upd T5 e 103, T6, T7', T8', upd F16 e 103, F17', nI (e + 1), ?_, ?_, g3, g4, fun q => ⟨by have := (g5 q).2; omega, rfl, ⟨by rw [pk_us, pk_us], fun q => absurd pk_us q, fun q => ?_, fun q => absurd pk_us q⟩, by rw [pk_us]; unfold TKs; decide⟩, fun j hj => ⟨pk_un hj, rfl, (g8 j hj).1, (g8 j hj).2, pk_un hj⟩, fun j hj => g9 j (by omega) (by omega)⟩
  · simp only [f_X6_parseCommand, hA, xb1_s, x35, xk_t, hk, y_10, if_false, if_true, y_cl (show e < 2 ^ 31 by omega), nI_1]
    exact g1
  · simp only [f_X8_readsEntry, hB, xb1_s, x36, xk_t, o97, o99, o100, o110, o112, o115, o119, if_false, if_true, y_cl (show e < 2 ^ 31 by omega), nI_1, e3]
    exact g2
  · rw [pk_us] at q
    exact absurd q (by decide)
theorem t_k110 {fu len e p : Nat} (hfu : 40 < fu) {T1 F8 : xF32} (h : TX len T1 F8) (he : e < 35) (hp : p < len) (z : Int32) (T5 T6 T7 T8 F16 F17 : xF32) (hA : f_X6_signAhead (nI len) T1 (nI p) = some 110) (hB : f_X8_here F8 (nI p) (nI len) = some 110) : TP fu len e p T1 F8 T5 T6 T7 T8 F16 F17 z := by
  have hl := h.1
  have hk : f_X6_isKind 110 = some 1 := by decide
  have x35 : xin (nI e) 35 = true := y_in he (by omega)
  have x36 : xin (nI e) 36 = true := y_in (by omega) (by omega)
  have e3 : 3 * nI e = nI (3 * e) := pk_mul 3 e
  have x108 : xin (nI (3 * e)) 108 = true := y_in (by omega) (by omega)
  have o97 : ((110 : Int32) = 97) = False := eq_false (by decide)
  have o99 : ((110 : Int32) = 99) = False := eq_false (by decide)
  have o100 : ((110 : Int32) = 100) = False := eq_false (by decide)
  have o103 : ((110 : Int32) = 103) = False := eq_false (by decide)
  have o112 : ((110 : Int32) = 112) = False := eq_false (by decide)
  have o115 : ((110 : Int32) = 115) = False := eq_false (by decide)
  have o119 : ((110 : Int32) = 119) = False := eq_false (by decide)
  obtain ⟨v, p2, r2, b1, b2, b3, b4, b5, b6⟩ := t_num (fu := fu) (p := p + 1) (d := 3) hfu h (by omega) (by omega) (by omega) (.inr rfl)
  have b1' : f_X6_takeNumber fu 3 (nI len) T1 (nI (p + 1)) 1 = some (v, nI p2, r2) := b1
  have b2' : f_X8_number fu 3 F8 (nI (p + 1)) (nI len) 1 = some (v, nI p2, r2) := b2
  obtain ⟨p', r', T7', T8', F17', g1, g2, g3, g4, g5, g6, g7, g8, g9⟩ := t_74 (fu := fu) hfu h he b4 b5 110 (upd T5 e 110) (upd T6 e v) T7 T8 (upd F16 e 110) (upd F17 (3 * e) v)
  refine ⟨p', r', upd T5 e 110, upd T6 e v, T7', T8', upd F16 e 110, F17', nI (e + 1), ?_, ?_, g3, g4, fun q => ⟨by have := (g5 q).2; omega, rfl, ⟨by rw [pk_us, pk_us], fun q => by rw [pk_us, g9 _ (by omega) (by omega), pk_us], fun q => g7 (by rw [pk_us] at q; exact q), fun q1 q2 => g6 (by rw [pk_us] at q1; exact q1) (by rw [pk_us] at q2; exact q2)⟩, by rw [pk_us]; unfold TKs; decide⟩, fun j hj => ⟨pk_un hj, pk_un hj, (g8 j hj).1, (g8 j hj).2, pk_un hj⟩, fun j hj => by rw [g9 j (by omega) (by omega), pk_un (by omega)]⟩
  · simp only [f_X6_parseCommand, hA, xb1_s, x35, xk_t, hk, y_10, o97, o99, o100, o103, o112, o115, o119, if_false, if_true, y_cl (show e < 2 ^ 31 by omega), nI_1, b1', xb3_s]
    exact g1
  · simp only [f_X8_readsEntry, hB, xb1_s, x36, xk_t, o97, o99, o100, o103, o112, o115, o119, if_false, if_true, y_cl (show e < 2 ^ 31 by omega), nI_1, e3, b2', xb3_s, x108, y_cl (show 3 * e < 2 ^ 31 by omega)]
    exact g2
theorem t_k112 {fu len e p : Nat} (hfu : 40 < fu) {T1 F8 : xF32} (h : TX len T1 F8) (he : e < 35) (hp : p < len) (z : Int32) (T5 T6 T7 T8 F16 F17 : xF32) (hA : f_X6_signAhead (nI len) T1 (nI p) = some 112) (hB : f_X8_here F8 (nI p) (nI len) = some 112) : TP fu len e p T1 F8 T5 T6 T7 T8 F16 F17 z := by
  have hl := h.1
  have hk : f_X6_isKind 112 = some 1 := by decide
  have x35 : xin (nI e) 35 = true := y_in he (by omega)
  have x36 : xin (nI e) 36 = true := y_in (by omega) (by omega)
  have e3 : 3 * nI e = nI (3 * e) := pk_mul 3 e
  have x108 : xin (nI (3 * e)) 108 = true := y_in (by omega) (by omega)
  have o97 : ((112 : Int32) = 97) = False := eq_false (by decide)
  have o99 : ((112 : Int32) = 99) = False := eq_false (by decide)
  have o100 : ((112 : Int32) = 100) = False := eq_false (by decide)
  have o103 : ((112 : Int32) = 103) = False := eq_false (by decide)
  have o110 : ((112 : Int32) = 110) = False := eq_false (by decide)
  have o115 : ((112 : Int32) = 115) = False := eq_false (by decide)
  have o119 : ((112 : Int32) = 119) = False := eq_false (by decide)
  obtain ⟨v, p2, r2, b1, b2, b3, b4, b5, b6⟩ := t_num (fu := fu) (p := p + 1) (d := 1) hfu h (by omega) (by omega) (by omega) (.inr rfl)
  have b1' : f_X6_takeNumber fu 1 (nI len) T1 (nI (p + 1)) 1 = some (v, nI p2, r2) := b1
  have b2' : f_X8_number fu 1 F8 (nI (p + 1)) (nI len) 1 = some (v, nI p2, r2) := b2
  obtain ⟨p', r', T7', T8', F17', g1, g2, g3, g4, g5, g6, g7, g8, g9⟩ := t_74 (fu := fu) hfu h he b4 b5 112 (upd T5 e 112) (upd T6 e v) T7 T8 (upd F16 e 112) (upd F17 (3 * e) v)
  refine ⟨p', r', upd T5 e 112, upd T6 e v, T7', T8', upd F16 e 112, F17', nI (e + 1), ?_, ?_, g3, g4, fun q => ⟨by have := (g5 q).2; omega, rfl, ⟨by rw [pk_us, pk_us], fun q => by rw [pk_us, g9 _ (by omega) (by omega), pk_us], fun q => g7 (by rw [pk_us] at q; exact q), fun q1 q2 => g6 (by rw [pk_us] at q1; exact q1) (by rw [pk_us] at q2; exact q2)⟩, by rw [pk_us]; unfold TKs; decide⟩, fun j hj => ⟨pk_un hj, pk_un hj, (g8 j hj).1, (g8 j hj).2, pk_un hj⟩, fun j hj => by rw [g9 j (by omega) (by omega), pk_un (by omega)]⟩
  · simp only [f_X6_parseCommand, hA, xb1_s, x35, xk_t, hk, y_10, o97, o99, o100, o103, o110, o115, o119, if_false, if_true, y_cl (show e < 2 ^ 31 by omega), nI_1, b1', xb3_s]
    exact g1
  · simp only [f_X8_readsEntry, hB, xb1_s, x36, xk_t, o97, o99, o100, o103, o110, o115, o119, if_false, if_true, y_cl (show e < 2 ^ 31 by omega), nI_1, e3, b2', xb3_s, x108, y_cl (show 3 * e < 2 ^ 31 by omega)]
    exact g2
theorem t_k115 {fu len e p : Nat} (hfu : 40 < fu) {T1 F8 : xF32} (h : TX len T1 F8) (he : e < 35) (hp : p < len) (z : Int32) (T5 T6 T7 T8 F16 F17 : xF32) (hA : f_X6_signAhead (nI len) T1 (nI p) = some 115) (hB : f_X8_here F8 (nI p) (nI len) = some 115) : TP fu len e p T1 F8 T5 T6 T7 T8 F16 F17 z := by
  have hl := h.1
  have hk : f_X6_isKind 115 = some 1 := by decide
  have x35 : xin (nI e) 35 = true := y_in he (by omega)
  have x36 : xin (nI e) 36 = true := y_in (by omega) (by omega)
  have e3 : 3 * nI e = nI (3 * e) := pk_mul 3 e
  have x108 : xin (nI (3 * e)) 108 = true := y_in (by omega) (by omega)
  have o97 : ((115 : Int32) = 97) = False := eq_false (by decide)
  have o99 : ((115 : Int32) = 99) = False := eq_false (by decide)
  have o100 : ((115 : Int32) = 100) = False := eq_false (by decide)
  have o103 : ((115 : Int32) = 103) = False := eq_false (by decide)
  have o110 : ((115 : Int32) = 110) = False := eq_false (by decide)
  have o112 : ((115 : Int32) = 112) = False := eq_false (by decide)
  have o119 : ((115 : Int32) = 119) = False := eq_false (by decide)
  obtain ⟨v, p2, r2, b1, b2, b3, b4, b5, b6⟩ := t_num (fu := fu) (p := p + 1) (d := 1) hfu h (by omega) (by omega) (by omega) (.inr rfl)
  have b1' : f_X6_takeNumber fu 1 (nI len) T1 (nI (p + 1)) 1 = some (v, nI p2, r2) := b1
  have b2' : f_X8_number fu 1 F8 (nI (p + 1)) (nI len) 1 = some (v, nI p2, r2) := b2
  obtain ⟨p', r', T7', T8', F17', g1, g2, g3, g4, g5, g6, g7, g8, g9⟩ := t_74 (fu := fu) hfu h he b4 b5 115 (upd T5 e 115) (upd T6 e v) T7 T8 (upd F16 e 115) (upd F17 (3 * e) v)
  refine ⟨p', r', upd T5 e 115, upd T6 e v, T7', T8', upd F16 e 115, F17', nI (e + 1), ?_, ?_, g3, g4, fun q => ⟨by have := (g5 q).2; omega, rfl, ⟨by rw [pk_us, pk_us], fun q => by rw [pk_us, g9 _ (by omega) (by omega), pk_us], fun q => g7 (by rw [pk_us] at q; exact q), fun q1 q2 => g6 (by rw [pk_us] at q1; exact q1) (by rw [pk_us] at q2; exact q2)⟩, by rw [pk_us]; unfold TKs; decide⟩, fun j hj => ⟨pk_un hj, pk_un hj, (g8 j hj).1, (g8 j hj).2, pk_un hj⟩, fun j hj => by rw [g9 j (by omega) (by omega), pk_un (by omega)]⟩
  · simp only [f_X6_parseCommand, hA, xb1_s, x35, xk_t, hk, y_10, o97, o99, o100, o103, o110, o112, o119, if_false, if_true, y_cl (show e < 2 ^ 31 by omega), nI_1, b1', xb3_s]
    exact g1
  · simp only [f_X8_readsEntry, hB, xb1_s, x36, xk_t, o97, o99, o100, o103, o110, o112, o119, if_false, if_true, y_cl (show e < 2 ^ 31 by omega), nI_1, e3, b2', xb3_s, x108, y_cl (show 3 * e < 2 ^ 31 by omega)]
    exact g2
theorem t_k119 {fu len e p : Nat} (hfu : 40 < fu) {T1 F8 : xF32} (h : TX len T1 F8) (he : e < 35) (hp : p < len) (z : Int32) (T5 T6 T7 T8 F16 F17 : xF32) (hA : f_X6_signAhead (nI len) T1 (nI p) = some 119) (hB : f_X8_here F8 (nI p) (nI len) = some 119) : TP fu len e p T1 F8 T5 T6 T7 T8 F16 F17 z := by
  have hl := h.1
  have hk : f_X6_isKind 119 = some 1 := by decide
  have x35 : xin (nI e) 35 = true := y_in he (by omega)
  have x36 : xin (nI e) 36 = true := y_in (by omega) (by omega)
  have e3 : 3 * nI e = nI (3 * e) := pk_mul 3 e
  have x108 : xin (nI (3 * e)) 108 = true := y_in (by omega) (by omega)
  have o97 : ((119 : Int32) = 97) = False := eq_false (by decide)
  have o99 : ((119 : Int32) = 99) = False := eq_false (by decide)
  have o100 : ((119 : Int32) = 100) = False := eq_false (by decide)
  have o103 : ((119 : Int32) = 103) = False := eq_false (by decide)
  have o110 : ((119 : Int32) = 110) = False := eq_false (by decide)
  have o112 : ((119 : Int32) = 112) = False := eq_false (by decide)
  have o115 : ((119 : Int32) = 115) = False := eq_false (by decide)
  obtain ⟨v, p2, r2, b1, b2, b3, b4, b5, b6⟩ := t_num (fu := fu) (p := p + 1) (d := 3) hfu h (by omega) (by omega) (by omega) (.inr rfl)
  have b1' : f_X6_takeNumber fu 3 (nI len) T1 (nI (p + 1)) 1 = some (v, nI p2, r2) := b1
  have b2' : f_X8_number fu 3 F8 (nI (p + 1)) (nI len) 1 = some (v, nI p2, r2) := b2
  obtain ⟨p', r', T7', T8', F17', g1, g2, g3, g4, g5, g6, g7, g8, g9⟩ := t_74 (fu := fu) hfu h he b4 b5 119 (upd T5 e 119) (upd T6 e v) T7 T8 (upd F16 e 119) (upd F17 (3 * e) v)
  refine ⟨p', r', upd T5 e 119, upd T6 e v, T7', T8', upd F16 e 119, F17', nI (e + 1), ?_, ?_, g3, g4, fun q => ⟨by have := (g5 q).2; omega, rfl, ⟨by rw [pk_us, pk_us], fun q => by rw [pk_us, g9 _ (by omega) (by omega), pk_us], fun q => g7 (by rw [pk_us] at q; exact q), fun q1 q2 => g6 (by rw [pk_us] at q1; exact q1) (by rw [pk_us] at q2; exact q2)⟩, by rw [pk_us]; unfold TKs; decide⟩, fun j hj => ⟨pk_un hj, pk_un hj, (g8 j hj).1, (g8 j hj).2, pk_un hj⟩, fun j hj => by rw [g9 j (by omega) (by omega), pk_un (by omega)]⟩
  · simp only [f_X6_parseCommand, hA, xb1_s, x35, xk_t, hk, y_10, o97, o99, o100, o103, o110, o112, o115, if_false, if_true, y_cl (show e < 2 ^ 31 by omega), nI_1, b1', xb3_s]
    exact g1
  · simp only [f_X8_readsEntry, hB, xb1_s, x36, xk_t, o97, o99, o100, o103, o110, o112, o115, if_false, if_true, y_cl (show e < 2 ^ 31 by omega), nI_1, e3, b2', xb3_s, x108, y_cl (show 3 * e < 2 ^ 31 by omega)]
    exact g2
theorem t_cmd {fu len e p : Nat} (hfu : 40 < fu) {T1 F8 : xF32} (h : TX len T1 F8) (he : e < 35) (hp : p < len) (z : Int32) (T5 T6 T7 T8 F16 F17 : xF32) : TP fu len e p T1 F8 T5 T6 T7 T8 F16 F17 z := by
  have hl := h.1
  obtain ⟨a, b, h1, h2, h3⟩ := t_sign h (p := p) (by omega)
  rcases h3 with ⟨h3, -⟩ | ⟨-, rfl, h4, h5⟩
  · omega
  by_cases c97 : a = 97
  · subst c97
    exact t_k97 hfu h he hp z T5 T6 T7 T8 F16 F17 h1 h2
  by_cases c99 : a = 99
  · subst c99
    exact t_k99 hfu h he hp z T5 T6 T7 T8 F16 F17 h1 h2
  by_cases c100 : a = 100
  · subst c100
    exact t_k100 hfu h he hp z T5 T6 T7 T8 F16 F17 h1 h2
  by_cases c103 : a = 103
  · subst c103
    exact t_k103 hfu h he hp z T5 T6 T7 T8 F16 F17 h1 h2
  by_cases c110 : a = 110
  · subst c110
    exact t_k110 hfu h he hp z T5 T6 T7 T8 F16 F17 h1 h2
  by_cases c112 : a = 112
  · subst c112
    exact t_k112 hfu h he hp z T5 T6 T7 T8 F16 F17 h1 h2
  by_cases c115 : a = 115
  · subst c115
    exact t_k115 hfu h he hp z T5 T6 T7 T8 F16 F17 h1 h2
  by_cases c119 : a = 119
  · subst c119
    exact t_k119 hfu h he hp z T5 T6 T7 T8 F16 F17 h1 h2
  have hk : f_X6_isKind a = some 0 := by simp only [f_X6_isKind, c97, c99, c100, c103, c110, c112, c115, c119, if_false]
  have x35 : xin (nI e) 35 = true := y_in he (by omega)
  have x36 : xin (nI e) 36 = true := y_in (by omega) (by omega)
  have z0 : nI p + 0 = nI p := nI_add p 0
  refine ⟨p, 0, upd T5 e a, T6, T7, T8, upd F16 e a, F17, nI e, ?_, ?_, by omega, .inl rfl, fun q => absurd q (by decide), fun j hj => ⟨pk_un hj, rfl, rfl, rfl, pk_un hj⟩, fun _ _ => rfl⟩
  · simp only [f_X6_parseCommand, h1, xb1_s, x35, xk_t, hk, if_true, y_cl (show e < 2 ^ 31 by omega)]
  · simp only [f_X8_readsEntry, h2, xb1_s, x36, xk_t, c97, c99, c100, c103, c110, c112, c115, c119, if_false, y_cl (show e < 2 ^ 31 by omega), z0]
/-- the whole text -/
theorem t_loop {fu len : Nat} (hfu : 40 < fu) {T1 F8 : xF32} (h : TX len T1 F8) (F9 : Int32) : ∀ l e p m m' (T5 T6 T7 T8 F16 F17 : xF32) (r : Int32), e + l = 35 → l < m → l < m' → p ≤ len → yb r → (r = 1 → 2 * e ≤ p) → (r = 1 → ∀ j, j < e → TE j T5 T6 T7 T8 F16 F17 ∧ TKs (T5 j)) → ∀ (cn e' : Int32), (r = 1 → cn = nI e ∧ e' = nI e) → ∃ p' r' c' e2 T5' T6' T7' T8' F16' F17', f_X6_parseAll_28 fu (nI len) T1 m (nI e) (nI p) r cn T5 T6 T7 T8 = some (r', nI p', r', c', T5', T6', T7', T8') ∧ f_X8_readsText_27 fu F8 m' F9 (nI p) (nI len) r F16 F17 e' = some (r', F9, nI p', nI len, r', F16', F17', e2) ∧ p' ≤ len ∧ yb r' ∧ (r' = 1 → ∃ c, c ≤ 35 ∧ c' = nI c ∧ e2 = nI c ∧ ∀ j, j < c → TE j T5' T6' T7' T8' F16' F17' ∧ TKs (T5' j)) := by
  have hl := h.1
  have o : ¬ (1 : Int32) = 0 := by decide
  intro l
  induction l with
  | zero =>
    intro e p m m' T5 T6 T7 T8 F16 F17 r he hm hm' hp hr h2 hT cn e' hcn
    obtain ⟨m, rfl⟩ : ∃ m1, m = m1 + 1 := ⟨m - 1, by omega⟩
    obtain ⟨m', rfl⟩ : ∃ m1, m' = m1 + 1 := ⟨m' - 1, by omega⟩
    have he' : e = 35 := by omega
    subst he'
    have c35 : (35 : Int32) ≤ nI 35 := nI_le (a := 35) (b := 35) (by omega) (by omega)
    rcases hr with rfl | rfl
    · refine ⟨p, 0, cn, e', T5, T6, T7, T8, F16, F17, ?_, ?_, hp, .inl rfl, fun q => absurd q (by decide)⟩
      · rw [f_X6_parseAll_28, if_pos c35, y_isb0, xk_t]
      · rw [f_X8_readsText_27, if_pos rfl, y_isb0, xk_t]
    · have hpl : p = len := by have := h2 rfl; omega
      refine ⟨p, 1, cn, e', T5, T6, T7, T8, F16, F17, ?_, ?_, hp, .inr rfl, fun _ => ⟨35, by omega, (hcn rfl).1, (hcn rfl).2, hT rfl⟩⟩
      · rw [f_X6_parseAll_28, if_pos c35, y_isb1, xk_t]
      · rw [f_X8_readsText_27, if_neg o, if_pos (nI_le (by omega) (by omega)), y_isb1, xk_t]
  | succ l ih =>
    intro e p m m' T5 T6 T7 T8 F16 F17 r he hm hm' hp hr h2 hT cn e' hcn
    obtain ⟨m, rfl⟩ : ∃ m1, m = m1 + 1 := ⟨m - 1, by omega⟩
    obtain ⟨m', rfl⟩ : ∃ m1, m' = m1 + 1 := ⟨m' - 1, by omega⟩
    have c35 : ¬ (35 : Int32) ≤ nI e := nI_ge (a := e) (b := 35) (by omega) (by omega)
    rcases hr with rfl | rfl
    · refine ⟨p, 0, cn, e', T5, T6, T7, T8, F16, F17, ?_, ?_, hp, .inl rfl, fun q => absurd q (by decide)⟩
      · rw [f_X6_parseAll_28, if_neg c35, if_pos rfl, y_isb0, xk_t]
      · rw [f_X8_readsText_27, if_pos rfl, y_isb0, xk_t]
    · obtain ⟨hc1, hc2⟩ := hcn rfl
      subst hc1
      subst hc2
      by_cases c : p = len
      · have cl : nI len ≤ nI p := nI_le (by omega) (by omega)
        refine ⟨p, 1, nI e, nI e, T5, T6, T7, T8, F16, F17, ?_, ?_, hp, .inr rfl, fun _ => ⟨e, by omega, rfl, rfl, hT rfl⟩⟩
        · rw [f_X6_parseAll_28, if_neg c35, if_neg o, if_pos cl, y_isb1, xk_t]
        · rw [f_X8_readsText_27, if_neg o, if_pos cl, y_isb1, xk_t]
      · have cl : ¬ nI len ≤ nI p := nI_ge (by omega) (by omega)
        obtain ⟨p1, r1, U5, U6, U7, U8, V16, V17, e1, g1, g2, g3, g4, g5, g6, g7⟩ := t_cmd hfu h (e := e) (p := p) (by omega) (by omega) 1 T5 T6 T7 T8 F16 F17
        have hT' : r1 = 1 → ∀ j, j < e + 1 → TE j U5 U6 U7 U8 V16 V17 ∧ TKs (U5 j) := fun q j hj => by
          by_cases ej : j = e
          · subst ej
            exact ⟨(g5 q).2.2.1, (g5 q).2.2.2⟩
          · obtain ⟨t1, t2⟩ := hT rfl j (by omega)
            obtain ⟨k1, k2, k3, k4, k5⟩ := g6 j ej
            refine ⟨?_, by rw [k1]; exact t2⟩
            unfold TE
            rw [k1, k2, k3, k4, k5, g7 _ (by omega), g7 _ (by omega), g7 _ (by omega)]
            exact t1
        obtain ⟨p', r', c', e2, W5, W6, W7, W8, X16, X17, k1, k2, k3⟩ := ih (e + 1) p1 m m' U5 U6 U7 U8 V16 V17 r1 (by omega) (by omega) (by omega) g3 g4 (fun q => by have := (g5 q).1; have := h2 rfl; omega) hT' (nI (e + 1)) e1 (fun q => ⟨rfl, (g5 q).2.1⟩)
        refine ⟨p', r', c', e2, W5, W6, W7, W8, X16, X17, ?_, ?_, k3⟩
        · rw [f_X6_parseAll_28, if_neg c35, if_neg o, if_neg cl, g1, xb6_s, nI_1]
          exact k1
        · rw [f_X8_readsText_27, if_neg o, if_neg cl, g2, xb5_s]
          exact k2
theorem t_text {fu len : Nat} (hfu : 40 < fu) {T1 F8 : xF32} (h : TX len T1 F8) (T2 T3 T4 F13 F14 F15 F18 : Int32) (T5 T6 T7 T8 F16 F17 : xF32) : ∃ p' r' c' e2 T5' T6' T7' T8' F16' F17', f_X6_parseAll fu (nI len) T1 T2 T3 T4 T5 T6 T7 T8 = some (r', nI p', r', c', T5', T6', T7', T8') ∧ f_X8_readsText fu F8 (nI len) F13 F14 F15 F16 F17 F18 = some (r', 0, nI p', nI len, r', F16', F17', e2) ∧ p' ≤ len ∧ yb r' ∧ (r' = 1 → ∃ c, c ≤ 35 ∧ c' = nI c ∧ e2 = nI c ∧ ∀ j, j < c → TE j T5' T6' T7' T8' F16' F17' ∧ TKs (T5' j)) := by
  have hl := h.1
  have o : ¬ (1 : Int32) = 0 := by decide
  obtain ⟨m, hm⟩ : ∃ m', fu = m' + 1 := ⟨fu - 1, by omega⟩
  by_cases c : len = 0
  · subst c
    have l0 : nI 0 ≤ 0 := by decide
    have c35 : ¬ (35 : Int32) ≤ 0 := by decide
    have hb : f_X8_here F8 0 (nI 0) = some (-1) := by
      rw [f_X8_here, if_pos (by decide)]
    have z0 : (0 : Int32) + 0 = nI 0 := by decide
    have e1 : f_X8_readsEntry fu F8 0 (nI 0) F15 F16 F17 0 = some (nI 0, 0, upd F16 0 (-1), F17, 0) := by
      have x36 : xin 0 36 = true := by decide
      have o97 : ((-1 : Int32) = 97) = False := eq_false (by decide)
      have o99 : ((-1 : Int32) = 99) = False := eq_false (by decide)
      have o100 : ((-1 : Int32) = 100) = False := eq_false (by decide)
      have o103 : ((-1 : Int32) = 103) = False := eq_false (by decide)
      have o110 : ((-1 : Int32) = 110) = False := eq_false (by decide)
      have o112 : ((-1 : Int32) = 112) = False := eq_false (by decide)
      have o115 : ((-1 : Int32) = 115) = False := eq_false (by decide)
      have o119 : ((-1 : Int32) = 119) = False := eq_false (by decide)
      simp only [f_X8_readsEntry, hb, xb1_s, x36, xk_t, o97, o99, o100, o103, o110, o112, o115, o119, if_false, z0]
      rfl
    refine ⟨0, 0, 0, 0, T5, T6, T7, T8, upd F16 0 (-1), F17, ?_, ?_, by omega, .inl rfl, fun q => absurd q (by decide)⟩
    · have : f_X6_parseAll_28 fu (nI 0) T1 (m + 1) 0 0 0 0 T5 T6 T7 T8 = some (0, nI 0, 0, 0, T5, T6, T7, T8) := by
        rw [f_X6_parseAll_28, if_neg c35, if_pos rfl, y_isb0, xk_t]
        rfl
      rw [← hm] at this
      rw [f_X6_parseAll, if_pos l0]
      exact this
    · have : f_X8_readsText_27 fu F8 (m + 1) 0 (nI 0) (nI 0) 0 (upd F16 0 (-1)) F17 0 = some (0, 0, nI 0, nI 0, 0, upd F16 0 (-1), F17, 0) := by
        rw [f_X8_readsText_27, if_pos rfl, y_isb0, xk_t]
      rw [← hm] at this
      rw [f_X8_readsText, e1, xb5_s]
      exact this
  · have l0 : ¬ nI len ≤ 0 := nI_nle (by omega) (by omega)
    obtain ⟨p1, r1, U5, U6, U7, U8, V16, V17, e1, g1, g2, g3, g4, g5, g6, g7⟩ := t_cmd hfu h (e := 0) (p := 0) (by omega) (by omega) F15 T5 T6 T7 T8 F16 F17
    obtain ⟨p', r', c', e2, W5, W6, W7, W8, X16, X17, k1, k2, k3⟩ := t_loop hfu h 0 34 1 p1 m fu U5 U6 U7 U8 V16 V17 r1 (by omega) (by omega) (by omega) g3 g4 (fun q => by have := (g5 q).1; omega) (fun q j hj => by
      have : j = 0 := by omega
      subst this
      exact ⟨(g5 q).2.2.1, (g5 q).2.2.2⟩) (nI 1) e1 (fun q => ⟨rfl, (g5 q).2.1⟩)
    refine ⟨p', r', c', e2, W5, W6, W7, W8, X16, X17, ?_, ?_, k3⟩
    · have c35 : ¬ (35 : Int32) ≤ 0 := by decide
      have cl : ¬ nI len ≤ 0 := l0
      have g1' : f_X6_parseCommand fu 0 (nI len) T1 0 1 T5 T6 T7 T8 = some (nI p1, r1, U5, U6, U7, U8) := g1
      have : f_X6_parseAll_28 fu (nI len) T1 (m + 1) 0 0 1 0 T5 T6 T7 T8 = some (r', nI p', r', c', W5, W6, W7, W8) := by
        rw [f_X6_parseAll_28, if_neg c35, if_neg o, if_neg cl, g1', xb6_s]
        exact k1
      rw [← hm] at this
      rw [f_X6_parseAll, if_neg l0]
      exact this
    · have g2' : f_X8_readsEntry fu F8 0 (nI len) F15 F16 F17 0 = some (nI p1, r1, V16, V17, e1) := g2
      rw [f_X8_readsText, g2', xb5_s]
      exact k2
