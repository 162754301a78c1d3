def xb13 {α1 α2 α3 α4 α5 α6 α7 α8 α9 α10 α11 α12 α13 ρ : Type} (o : Option (α1 × α2 × α3 × α4 × α5 × α6 × α7 × α8 × α9 × α10 × α11 × α12 × α13)) (k : α1 → α2 → α3 → α4 → α5 → α6 → α7 → α8 → α9 → α10 → α11 → α12 → α13 → Option ρ) : Option ρ := match o with
  | some (a1, a2, a3, a4, a5, a6, a7, a8, a9, a10, a11, a12, a13) => k a1 a2 a3 a4 a5 a6 a7 a8 a9 a10 a11 a12 a13
  | none => none
theorem xb13_of {α1 α2 α3 α4 α5 α6 α7 α8 α9 α10 α11 α12 α13 ρ : Type} {o : Option (α1 × α2 × α3 × α4 × α5 × α6 × α7 × α8 × α9 × α10 × α11 × α12 × α13)} {k : α1 → α2 → α3 → α4 → α5 → α6 → α7 → α8 → α9 → α10 → α11 → α12 → α13 → Option ρ} {R : ρ} (h : xb13 o k = some R) : ∃ a1 a2 a3 a4 a5 a6 a7 a8 a9 a10 a11 a12 a13, o = some (a1, a2, a3, a4, a5, a6, a7, a8, a9, a10, a11, a12, a13) ∧ k a1 a2 a3 a4 a5 a6 a7 a8 a9 a10 a11 a12 a13 = some R := by
  match o, h with
  | some (a1, a2, a3, a4, a5, a6, a7, a8, a9, a10, a11, a12, a13), h => exact ⟨a1, a2, a3, a4, a5, a6, a7, a8, a9, a10, a11, a12, a13, rfl, h⟩
def xb14 {α1 α2 α3 α4 α5 α6 α7 α8 α9 α10 α11 α12 α13 α14 ρ : Type} (o : Option (α1 × α2 × α3 × α4 × α5 × α6 × α7 × α8 × α9 × α10 × α11 × α12 × α13 × α14)) (k : α1 → α2 → α3 → α4 → α5 → α6 → α7 → α8 → α9 → α10 → α11 → α12 → α13 → α14 → Option ρ) : Option ρ := match o with
  | some (a1, a2, a3, a4, a5, a6, a7, a8, a9, a10, a11, a12, a13, a14) => k a1 a2 a3 a4 a5 a6 a7 a8 a9 a10 a11 a12 a13 a14
  | none => none
theorem xb14_of {α1 α2 α3 α4 α5 α6 α7 α8 α9 α10 α11 α12 α13 α14 ρ : Type} {o : Option (α1 × α2 × α3 × α4 × α5 × α6 × α7 × α8 × α9 × α10 × α11 × α12 × α13 × α14)} {k : α1 → α2 → α3 → α4 → α5 → α6 → α7 → α8 → α9 → α10 → α11 → α12 → α13 → α14 → Option ρ} {R : ρ} (h : xb14 o k = some R) : ∃ a1 a2 a3 a4 a5 a6 a7 a8 a9 a10 a11 a12 a13 a14, o = some (a1, a2, a3, a4, a5, a6, a7, a8, a9, a10, a11, a12, a13, a14) ∧ k a1 a2 a3 a4 a5 a6 a7 a8 a9 a10 a11 a12 a13 a14 = some R := by
  match o, h with
  | some (a1, a2, a3, a4, a5, a6, a7, a8, a9, a10, a11, a12, a13, a14), h => exact ⟨a1, a2, a3, a4, a5, a6, a7, a8, a9, a10, a11, a12, a13, a14, rfl, h⟩
def xb15 {α1 α2 α3 α4 α5 α6 α7 α8 α9 α10 α11 α12 α13 α14 α15 ρ : Type} (o : Option (α1 × α2 × α3 × α4 × α5 × α6 × α7 × α8 × α9 × α10 × α11 × α12 × α13 × α14 × α15)) (k : α1 → α2 → α3 → α4 → α5 → α6 → α7 → α8 → α9 → α10 → α11 → α12 → α13 → α14 → α15 → Option ρ) : Option ρ := match o with
  | some (a1, a2, a3, a4, a5, a6, a7, a8, a9, a10, a11, a12, a13, a14, a15) => k a1 a2 a3 a4 a5 a6 a7 a8 a9 a10 a11 a12 a13 a14 a15
  | none => none
theorem xb15_of {α1 α2 α3 α4 α5 α6 α7 α8 α9 α10 α11 α12 α13 α14 α15 ρ : Type} {o : Option (α1 × α2 × α3 × α4 × α5 × α6 × α7 × α8 × α9 × α10 × α11 × α12 × α13 × α14 × α15)} {k : α1 → α2 → α3 → α4 → α5 → α6 → α7 → α8 → α9 → α10 → α11 → α12 → α13 → α14 → α15 → Option ρ} {R : ρ} (h : xb15 o k = some R) : ∃ a1 a2 a3 a4 a5 a6 a7 a8 a9 a10 a11 a12 a13 a14 a15, o = some (a1, a2, a3, a4, a5, a6, a7, a8, a9, a10, a11, a12, a13, a14, a15) ∧ k a1 a2 a3 a4 a5 a6 a7 a8 a9 a10 a11 a12 a13 a14 a15 = some R := by
  match o, h with
  | some (a1, a2, a3, a4, a5, a6, a7, a8, a9, a10, a11, a12, a13, a14, a15), h => exact ⟨a1, a2, a3, a4, a5, a6, a7, a8, a9, a10, a11, a12, a13, a14, a15, rfl, h⟩
def xb16 {α1 α2 α3 α4 α5 α6 α7 α8 α9 α10 α11 α12 α13 α14 α15 α16 ρ : Type} (o : Option (α1 × α2 × α3 × α4 × α5 × α6 × α7 × α8 × α9 × α10 × α11 × α12 × α13 × α14 × α15 × α16)) (k : α1 → α2 → α3 → α4 → α5 → α6 → α7 → α8 → α9 → α10 → α11 → α12 → α13 → α14 → α15 → α16 → Option ρ) : Option ρ := match o with
  | some (a1, a2, a3, a4, a5, a6, a7, a8, a9, a10, a11, a12, a13, a14, a15, a16) => k a1 a2 a3 a4 a5 a6 a7 a8 a9 a10 a11 a12 a13 a14 a15 a16
  | none => none
theorem xb16_of {α1 α2 α3 α4 α5 α6 α7 α8 α9 α10 α11 α12 α13 α14 α15 α16 ρ : Type} {o : Option (α1 × α2 × α3 × α4 × α5 × α6 × α7 × α8 × α9 × α10 × α11 × α12 × α13 × α14 × α15 × α16)} {k : α1 → α2 → α3 → α4 → α5 → α6 → α7 → α8 → α9 → α10 → α11 → α12 → α13 → α14 → α15 → α16 → Option ρ} {R : ρ} (h : xb16 o k = some R) : ∃ a1 a2 a3 a4 a5 a6 a7 a8 a9 a10 a11 a12 a13 a14 a15 a16, o = some (a1, a2, a3, a4, a5, a6, a7, a8, a9, a10, a11, a12, a13, a14, a15, a16) ∧ k a1 a2 a3 a4 a5 a6 a7 a8 a9 a10 a11 a12 a13 a14 a15 a16 = some R := by
  match o, h with
  | some (a1, a2, a3, a4, a5, a6, a7, a8, a9, a10, a11, a12, a13, a14, a15, a16), h => exact ⟨a1, a2, a3, a4, a5, a6, a7, a8, a9, a10, a11, a12, a13, a14, a15, a16, rfl, h⟩
def xb17 {α1 α2 α3 α4 α5 α6 α7 α8 α9 α10 α11 α12 α13 α14 α15 α16 α17 ρ : Type} (o : Option (α1 × α2 × α3 × α4 × α5 × α6 × α7 × α8 × α9 × α10 × α11 × α12 × α13 × α14 × α15 × α16 × α17)) (k : α1 → α2 → α3 → α4 → α5 → α6 → α7 → α8 → α9 → α10 → α11 → α12 → α13 → α14 → α15 → α16 → α17 → Option ρ) : Option ρ := match o with
  | some (a1, a2, a3, a4, a5, a6, a7, a8, a9, a10, a11, a12, a13, a14, a15, a16, a17) => k a1 a2 a3 a4 a5 a6 a7 a8 a9 a10 a11 a12 a13 a14 a15 a16 a17
  | none => none
theorem xb17_of {α1 α2 α3 α4 α5 α6 α7 α8 α9 α10 α11 α12 α13 α14 α15 α16 α17 ρ : Type} {o : Option (α1 × α2 × α3 × α4 × α5 × α6 × α7 × α8 × α9 × α10 × α11 × α12 × α13 × α14 × α15 × α16 × α17)} {k : α1 → α2 → α3 → α4 → α5 → α6 → α7 → α8 → α9 → α10 → α11 → α12 → α13 → α14 → α15 → α16 → α17 → Option ρ} {R : ρ} (h : xb17 o k = some R) : ∃ a1 a2 a3 a4 a5 a6 a7 a8 a9 a10 a11 a12 a13 a14 a15 a16 a17, o = some (a1, a2, a3, a4, a5, a6, a7, a8, a9, a10, a11, a12, a13, a14, a15, a16, a17) ∧ k a1 a2 a3 a4 a5 a6 a7 a8 a9 a10 a11 a12 a13 a14 a15 a16 a17 = some R := by
  match o, h with
  | some (a1, a2, a3, a4, a5, a6, a7, a8, a9, a10, a11, a12, a13, a14, a15, a16, a17), h => exact ⟨a1, a2, a3, a4, a5, a6, a7, a8, a9, a10, a11, a12, a13, a14, a15, a16, a17, rfl, h⟩
def xb18 {α1 α2 α3 α4 α5 α6 α7 α8 α9 α10 α11 α12 α13 α14 α15 α16 α17 α18 ρ : Type} (o : Option (α1 × α2 × α3 × α4 × α5 × α6 × α7 × α8 × α9 × α10 × α11 × α12 × α13 × α14 × α15 × α16 × α17 × α18)) (k : α1 → α2 → α3 → α4 → α5 → α6 → α7 → α8 → α9 → α10 → α11 → α12 → α13 → α14 → α15 → α16 → α17 → α18 → Option ρ) : Option ρ := match o with
  | some (a1, a2, a3, a4, a5, a6, a7, a8, a9, a10, a11, a12, a13, a14, a15, a16, a17, a18) => k a1 a2 a3 a4 a5 a6 a7 a8 a9 a10 a11 a12 a13 a14 a15 a16 a17 a18
  | none => none
theorem xb18_of {α1 α2 α3 α4 α5 α6 α7 α8 α9 α10 α11 α12 α13 α14 α15 α16 α17 α18 ρ : Type} {o : Option (α1 × α2 × α3 × α4 × α5 × α6 × α7 × α8 × α9 × α10 × α11 × α12 × α13 × α14 × α15 × α16 × α17 × α18)} {k : α1 → α2 → α3 → α4 → α5 → α6 → α7 → α8 → α9 → α10 → α11 → α12 → α13 → α14 → α15 → α16 → α17 → α18 → Option ρ} {R : ρ} (h : xb18 o k = some R) : ∃ a1 a2 a3 a4 a5 a6 a7 a8 a9 a10 a11 a12 a13 a14 a15 a16 a17 a18, o = some (a1, a2, a3, a4, a5, a6, a7, a8, a9, a10, a11, a12, a13, a14, a15, a16, a17, a18) ∧ k a1 a2 a3 a4 a5 a6 a7 a8 a9 a10 a11 a12 a13 a14 a15 a16 a17 a18 = some R := by
  match o, h with
  | some (a1, a2, a3, a4, a5, a6, a7, a8, a9, a10, a11, a12, a13, a14, a15, a16, a17, a18), h => exact ⟨a1, a2, a3, a4, a5, a6, a7, a8, a9, a10, a11, a12, a13, a14, a15, a16, a17, a18, rfl, h⟩
def xb19 {α1 α2 α3 α4 α5 α6 α7 α8 α9 α10 α11 α12 α13 α14 α15 α16 α17 α18 α19 ρ : Type} (o : Option (α1 × α2 × α3 × α4 × α5 × α6 × α7 × α8 × α9 × α10 × α11 × α12 × α13 × α14 × α15 × α16 × α17 × α18 × α19)) (k : α1 → α2 → α3 → α4 → α5 → α6 → α7 → α8 → α9 → α10 → α11 → α12 → α13 → α14 → α15 → α16 → α17 → α18 → α19 → Option ρ) : Option ρ := match o with
  | some (a1, a2, a3, a4, a5, a6, a7, a8, a9, a10, a11, a12, a13, a14, a15, a16, a17, a18, a19) => k a1 a2 a3 a4 a5 a6 a7 a8 a9 a10 a11 a12 a13 a14 a15 a16 a17 a18 a19
  | none => none
theorem xb19_of {α1 α2 α3 α4 α5 α6 α7 α8 α9 α10 α11 α12 α13 α14 α15 α16 α17 α18 α19 ρ : Type} {o : Option (α1 × α2 × α3 × α4 × α5 × α6 × α7 × α8 × α9 × α10 × α11 × α12 × α13 × α14 × α15 × α16 × α17 × α18 × α19)} {k : α1 → α2 → α3 → α4 → α5 → α6 → α7 → α8 → α9 → α10 → α11 → α12 → α13 → α14 → α15 → α16 → α17 → α18 → α19 → Option ρ} {R : ρ} (h : xb19 o k = some R) : ∃ a1 a2 a3 a4 a5 a6 a7 a8 a9 a10 a11 a12 a13 a14 a15 a16 a17 a18 a19, o = some (a1, a2, a3, a4, a5, a6, a7, a8, a9, a10, a11, a12, a13, a14, a15, a16, a17, a18, a19) ∧ k a1 a2 a3 a4 a5 a6 a7 a8 a9 a10 a11 a12 a13 a14 a15 a16 a17 a18 a19 = some R := by
  match o, h with
  | some (a1, a2, a3, a4, a5, a6, a7, a8, a9, a10, a11, a12, a13, a14, a15, a16, a17, a18, a19), h => exact ⟨a1, a2, a3, a4, a5, a6, a7, a8, a9, a10, a11, a12, a13, a14, a15, a16, a17, a18, a19, rfl, h⟩
def xb20 {α1 α2 α3 α4 α5 α6 α7 α8 α9 α10 α11 α12 α13 α14 α15 α16 α17 α18 α19 α20 ρ : Type} (o : Option (α1 × α2 × α3 × α4 × α5 × α6 × α7 × α8 × α9 × α10 × α11 × α12 × α13 × α14 × α15 × α16 × α17 × α18 × α19 × α20)) (k : α1 → α2 → α3 → α4 → α5 → α6 → α7 → α8 → α9 → α10 → α11 → α12 → α13 → α14 → α15 → α16 → α17 → α18 → α19 → α20 → Option ρ) : Option ρ := match o with
  | some (a1, a2, a3, a4, a5, a6, a7, a8, a9, a10, a11, a12, a13, a14, a15, a16, a17, a18, a19, a20) => k a1 a2 a3 a4 a5 a6 a7 a8 a9 a10 a11 a12 a13 a14 a15 a16 a17 a18 a19 a20
  | none => none
theorem xb20_of {α1 α2 α3 α4 α5 α6 α7 α8 α9 α10 α11 α12 α13 α14 α15 α16 α17 α18 α19 α20 ρ : Type} {o : Option (α1 × α2 × α3 × α4 × α5 × α6 × α7 × α8 × α9 × α10 × α11 × α12 × α13 × α14 × α15 × α16 × α17 × α18 × α19 × α20)} {k : α1 → α2 → α3 → α4 → α5 → α6 → α7 → α8 → α9 → α10 → α11 → α12 → α13 → α14 → α15 → α16 → α17 → α18 → α19 → α20 → Option ρ} {R : ρ} (h : xb20 o k = some R) : ∃ a1 a2 a3 a4 a5 a6 a7 a8 a9 a10 a11 a12 a13 a14 a15 a16 a17 a18 a19 a20, o = some (a1, a2, a3, a4, a5, a6, a7, a8, a9, a10, a11, a12, a13, a14, a15, a16, a17, a18, a19, a20) ∧ k a1 a2 a3 a4 a5 a6 a7 a8 a9 a10 a11 a12 a13 a14 a15 a16 a17 a18 a19 a20 = some R := by
  match o, h with
  | some (a1, a2, a3, a4, a5, a6, a7, a8, a9, a10, a11, a12, a13, a14, a15, a16, a17, a18, a19, a20), h => exact ⟨a1, a2, a3, a4, a5, a6, a7, a8, a9, a10, a11, a12, a13, a14, a15, a16, a17, a18, a19, a20, rfl, h⟩
def xb21 {α1 α2 α3 α4 α5 α6 α7 α8 α9 α10 α11 α12 α13 α14 α15 α16 α17 α18 α19 α20 α21 ρ : Type} (o : Option (α1 × α2 × α3 × α4 × α5 × α6 × α7 × α8 × α9 × α10 × α11 × α12 × α13 × α14 × α15 × α16 × α17 × α18 × α19 × α20 × α21)) (k : α1 → α2 → α3 → α4 → α5 → α6 → α7 → α8 → α9 → α10 → α11 → α12 → α13 → α14 → α15 → α16 → α17 → α18 → α19 → α20 → α21 → Option ρ) : Option ρ := match o with
  | some (a1, a2, a3, a4, a5, a6, a7, a8, a9, a10, a11, a12, a13, a14, a15, a16, a17, a18, a19, a20, a21) => k a1 a2 a3 a4 a5 a6 a7 a8 a9 a10 a11 a12 a13 a14 a15 a16 a17 a18 a19 a20 a21
  | none => none
theorem xb21_of {α1 α2 α3 α4 α5 α6 α7 α8 α9 α10 α11 α12 α13 α14 α15 α16 α17 α18 α19 α20 α21 ρ : Type} {o : Option (α1 × α2 × α3 × α4 × α5 × α6 × α7 × α8 × α9 × α10 × α11 × α12 × α13 × α14 × α15 × α16 × α17 × α18 × α19 × α20 × α21)} {k : α1 → α2 → α3 → α4 → α5 → α6 → α7 → α8 → α9 → α10 → α11 → α12 → α13 → α14 → α15 → α16 → α17 → α18 → α19 → α20 → α21 → Option ρ} {R : ρ} (h : xb21 o k = some R) : ∃ a1 a2 a3 a4 a5 a6 a7 a8 a9 a10 a11 a12 a13 a14 a15 a16 a17 a18 a19 a20 a21, o = some (a1, a2, a3, a4, a5, a6, a7, a8, a9, a10, a11, a12, a13, a14, a15, a16, a17, a18, a19, a20, a21) ∧ k a1 a2 a3 a4 a5 a6 a7 a8 a9 a10 a11 a12 a13 a14 a15 a16 a17 a18 a19 a20 a21 = some R := by
  match o, h with
  | some (a1, a2, a3, a4, a5, a6, a7, a8, a9, a10, a11, a12, a13, a14, a15, a16, a17, a18, a19, a20, a21), h => exact ⟨a1, a2, a3, a4, a5, a6, a7, a8, a9, a10, a11, a12, a13, a14, a15, a16, a17, a18, a19, a20, a21, rfl, h⟩
def xb22 {α1 α2 α3 α4 α5 α6 α7 α8 α9 α10 α11 α12 α13 α14 α15 α16 α17 α18 α19 α20 α21 α22 ρ : Type} (o : Option (α1 × α2 × α3 × α4 × α5 × α6 × α7 × α8 × α9 × α10 × α11 × α12 × α13 × α14 × α15 × α16 × α17 × α18 × α19 × α20 × α21 × α22)) (k : α1 → α2 → α3 → α4 → α5 → α6 → α7 → α8 → α9 → α10 → α11 → α12 → α13 → α14 → α15 → α16 → α17 → α18 → α19 → α20 → α21 → α22 → Option ρ) : Option ρ := match o with
  | some (a1, a2, a3, a4, a5, a6, a7, a8, a9, a10, a11, a12, a13, a14, a15, a16, a17, a18, a19, a20, a21, a22) => k a1 a2 a3 a4 a5 a6 a7 a8 a9 a10 a11 a12 a13 a14 a15 a16 a17 a18 a19 a20 a21 a22
  | none => none
theorem xb22_of {α1 α2 α3 α4 α5 α6 α7 α8 α9 α10 α11 α12 α13 α14 α15 α16 α17 α18 α19 α20 α21 α22 ρ : Type} {o : Option (α1 × α2 × α3 × α4 × α5 × α6 × α7 × α8 × α9 × α10 × α11 × α12 × α13 × α14 × α15 × α16 × α17 × α18 × α19 × α20 × α21 × α22)} {k : α1 → α2 → α3 → α4 → α5 → α6 → α7 → α8 → α9 → α10 → α11 → α12 → α13 → α14 → α15 → α16 → α17 → α18 → α19 → α20 → α21 → α22 → Option ρ} {R : ρ} (h : xb22 o k = some R) : ∃ a1 a2 a3 a4 a5 a6 a7 a8 a9 a10 a11 a12 a13 a14 a15 a16 a17 a18 a19 a20 a21 a22, o = some (a1, a2, a3, a4, a5, a6, a7, a8, a9, a10, a11, a12, a13, a14, a15, a16, a17, a18, a19, a20, a21, a22) ∧ k a1 a2 a3 a4 a5 a6 a7 a8 a9 a10 a11 a12 a13 a14 a15 a16 a17 a18 a19 a20 a21 a22 = some R := by
  match o, h with
  | some (a1, a2, a3, a4, a5, a6, a7, a8, a9, a10, a11, a12, a13, a14, a15, a16, a17, a18, a19, a20, a21, a22), h => exact ⟨a1, a2, a3, a4, a5, a6, a7, a8, a9, a10, a11, a12, a13, a14, a15, a16, a17, a18, a19, a20, a21, a22, rfl, h⟩
def xb23 {α1 α2 α3 α4 α5 α6 α7 α8 α9 α10 α11 α12 α13 α14 α15 α16 α17 α18 α19 α20 α21 α22 α23 ρ : Type} (o : Option (α1 × α2 × α3 × α4 × α5 × α6 × α7 × α8 × α9 × α10 × α11 × α12 × α13 × α14 × α15 × α16 × α17 × α18 × α19 × α20 × α21 × α22 × α23)) (k : α1 → α2 → α3 → α4 → α5 → α6 → α7 → α8 → α9 → α10 → α11 → α12 → α13 → α14 → α15 → α16 → α17 → α18 → α19 → α20 → α21 → α22 → α23 → Option ρ) : Option ρ := match o with
  | some (a1, a2, a3, a4, a5, a6, a7, a8, a9, a10, a11, a12, a13, a14, a15, a16, a17, a18, a19, a20, a21, a22, a23) => k a1 a2 a3 a4 a5 a6 a7 a8 a9 a10 a11 a12 a13 a14 a15 a16 a17 a18 a19 a20 a21 a22 a23
  | none => none
theorem xb23_of {α1 α2 α3 α4 α5 α6 α7 α8 α9 α10 α11 α12 α13 α14 α15 α16 α17 α18 α19 α20 α21 α22 α23 ρ : Type} {o : Option (α1 × α2 × α3 × α4 × α5 × α6 × α7 × α8 × α9 × α10 × α11 × α12 × α13 × α14 × α15 × α16 × α17 × α18 × α19 × α20 × α21 × α22 × α23)} {k : α1 → α2 → α3 → α4 → α5 → α6 → α7 → α8 → α9 → α10 → α11 → α12 → α13 → α14 → α15 → α16 → α17 → α18 → α19 → α20 → α21 → α22 → α23 → Option ρ} {R : ρ} (h : xb23 o k = some R) : ∃ a1 a2 a3 a4 a5 a6 a7 a8 a9 a10 a11 a12 a13 a14 a15 a16 a17 a18 a19 a20 a21 a22 a23, o = some (a1, a2, a3, a4, a5, a6, a7, a8, a9, a10, a11, a12, a13, a14, a15, a16, a17, a18, a19, a20, a21, a22, a23) ∧ k a1 a2 a3 a4 a5 a6 a7 a8 a9 a10 a11 a12 a13 a14 a15 a16 a17 a18 a19 a20 a21 a22 a23 = some R := by
  match o, h with
  | some (a1, a2, a3, a4, a5, a6, a7, a8, a9, a10, a11, a12, a13, a14, a15, a16, a17, a18, a19, a20, a21, a22, a23), h => exact ⟨a1, a2, a3, a4, a5, a6, a7, a8, a9, a10, a11, a12, a13, a14, a15, a16, a17, a18, a19, a20, a21, a22, a23, rfl, h⟩
def xb24 {α1 α2 α3 α4 α5 α6 α7 α8 α9 α10 α11 α12 α13 α14 α15 α16 α17 α18 α19 α20 α21 α22 α23 α24 ρ : Type} (o : Option (α1 × α2 × α3 × α4 × α5 × α6 × α7 × α8 × α9 × α10 × α11 × α12 × α13 × α14 × α15 × α16 × α17 × α18 × α19 × α20 × α21 × α22 × α23 × α24)) (k : α1 → α2 → α3 → α4 → α5 → α6 → α7 → α8 → α9 → α10 → α11 → α12 → α13 → α14 → α15 → α16 → α17 → α18 → α19 → α20 → α21 → α22 → α23 → α24 → Option ρ) : Option ρ := match o with
  | some (a1, a2, a3, a4, a5, a6, a7, a8, a9, a10, a11, a12, a13, a14, a15, a16, a17, a18, a19, a20, a21, a22, a23, a24) => k a1 a2 a3 a4 a5 a6 a7 a8 a9 a10 a11 a12 a13 a14 a15 a16 a17 a18 a19 a20 a21 a22 a23 a24
  | none => none
theorem xb24_of {α1 α2 α3 α4 α5 α6 α7 α8 α9 α10 α11 α12 α13 α14 α15 α16 α17 α18 α19 α20 α21 α22 α23 α24 ρ : Type} {o : Option (α1 × α2 × α3 × α4 × α5 × α6 × α7 × α8 × α9 × α10 × α11 × α12 × α13 × α14 × α15 × α16 × α17 × α18 × α19 × α20 × α21 × α22 × α23 × α24)} {k : α1 → α2 → α3 → α4 → α5 → α6 → α7 → α8 → α9 → α10 → α11 → α12 → α13 → α14 → α15 → α16 → α17 → α18 → α19 → α20 → α21 → α22 → α23 → α24 → Option ρ} {R : ρ} (h : xb24 o k = some R) : ∃ a1 a2 a3 a4 a5 a6 a7 a8 a9 a10 a11 a12 a13 a14 a15 a16 a17 a18 a19 a20 a21 a22 a23 a24, o = some (a1, a2, a3, a4, a5, a6, a7, a8, a9, a10, a11, a12, a13, a14, a15, a16, a17, a18, a19, a20, a21, a22, a23, a24) ∧ k a1 a2 a3 a4 a5 a6 a7 a8 a9 a10 a11 a12 a13 a14 a15 a16 a17 a18 a19 a20 a21 a22 a23 a24 = some R := by
  match o, h with
  | some (a1, a2, a3, a4, a5, a6, a7, a8, a9, a10, a11, a12, a13, a14, a15, a16, a17, a18, a19, a20, a21, a22, a23, a24), h => exact ⟨a1, a2, a3, a4, a5, a6, a7, a8, a9, a10, a11, a12, a13, a14, a15, a16, a17, a18, a19, a20, a21, a22, a23, a24, rfl, h⟩
def f_L_addParty (x1 : Int32) (x2 : Int32) (uA : Nat → sAcc) (uP : sPar) (uC : sCla) (uD : sDeb) (uJ : sJou) (ur : xF32) (ut : xF32) (ud : Int32) (ug : Int32) (uM1 : Int32) (uM2 : Int32) (uo : xF64) : Option (Int32 × (Nat → sAcc) × sPar × Int32 × Int32 × xF64) :=
  xb6 (f_X7_addParty x1 x2 uA uP uC uD uJ ur ut ud ug uM1 uM2) fun e1 v2 uA_3 uP_4 uM1_5 uM2_6 => (if e1 = 0 then (xk (xin 0 1) (some (0, uA_3, uP_4, uM1_5, uM2_6, (vp_updL uo (0 : Int32).toNatClampNeg v2.toInt64)))) else (if e1 = 2 then (some (1, uA_3, uP_4, uM1_5, uM2_6, uo)) else (if e1 = 3 then (some (2, uA_3, uP_4, uM1_5, uM2_6, uo)) else (none))))
set_option maxHeartbeats 4000000 in
set_option maxRecDepth 100000 in
theorem m_L_addParty {l : Launch} {κ : xKt} {wF : sRef}  {x1 : Int32} {x2 : Int32} {uA : Nat → sAcc} {uP : sPar} {uC : sCla} {uD : sDeb} {uJ : sJou} {ur : xF32} {ut : xF32} {ud : Int32} {ug : Int32} {uT0 : Int32} {uT1 : xF32} {uT2 : Int32} {uT3 : Int32} {uT4 : Int32} {uT5 : xF32} {uT6 : xF32} {uT7 : xF32} {uT8 : xF32} {uG0 : Int32} {uG1 : xF32} {uG2 : xF32} {uM0 : Int32} {uM1 : Int32} {uM2 : Int32} {uM3 : Int32} {uM4 : Int32} {uo : xF64} {uv : Nat → UInt64} {rr : Int32} {yA : Nat → sAcc} {yP : sPar} {yM1 : Int32} {yM2 : Int32} {yo : xF64} (hf : f_L_addParty x1 x2 uA uP uC uD uJ ur ut ud ug uM1 uM2 uo = some (rr, yA, yP, yM1, yM2, yo)) : xHi l κ yL_addParty cL_addParty 5 (some .int) [(0, 10, 13, 13), (0, 10, 17, 15)] (xR 4 1 6) [.ref (xAd κ 234), .int x1, .int x2, .ref (xAd κ 254)] (upA uA 0 (uP, uC, uD, uJ, ur, ut, ud, ug), (uT0, uT1, uT2, uT3, uT4, uT5, uT6, uT7, uT8), (uG0, uG1, uG2), (uM0, uM1, uM2, uM3, uM4), wF, uo, uv) (upA yA 0 (yP, uC, uD, uJ, ur, ut, ud, ug), (uT0, uT1, uT2, uT3, uT4, uT5, uT6, uT7, uT8), (uG0, uG1, uG2), (uM0, yM1, yM2, uM3, uM4), wF, yo, uv) rr := by
  unfold f_L_addParty at hf
  refine xHi_of pn_L (Nat.le_of_ble_eq_true rfl) ?_
  intro A p e s m args below meth c ls Q hlt hc hT hw hl K
  have hc : xC κ A p s m args meth c cL_addParty RL 5 (some .int) := hc
  have hx := hc.1.1
  have hb := hc.1.2.1
  have hl : lv_has ls 5 [(0, .ref (xAd κ 234)), (1, .int x1), (2, .int x2), (3, .ref (xAd κ 254))] := hl
  refine lv_aload_n hx hb dL_addParty_0 rfl (lv_at hl 3 rfl) ?_
  refine lv_iconst (v := 0) hx hb dL_addParty_1 (by decide) ?_
  refine lv_aload_n hx hb dL_addParty_2 rfl (lv_at hl 0 rfl) ?_
  refine lv_iload_n hx hb dL_addParty_3 rfl (lv_at hl 1 rfl) ?_
  refine lv_iload_n hx hb dL_addParty_4 rfl (lv_at hl 2 rfl) ?_
  obtain ⟨e1, v2, uA_3, uP_4, uM1_5, uM2_6, h7, hf⟩ := xb6_of hf
  refine x_tcalliV (As := [.int x1, .int x2]) (rest := [.int 0, .ref (xAd κ 254)]) (σ' := (upA uA_3 0 (uP_4, uC, uD, uJ, ur, ut, ud, ug), (uT0, uT1, uT2, uT3, uT4, uT5, uT6, uT7, uT8), (uG0, uG1, uG2), (uM0, uM1_5, uM2_6, uM3, uM4), wF, uo, uv)) hc hw hl.1 hlt (m_X7_addParty h7) kL_7 co_234 rfl rfl ⟨rfl, rfl⟩ ⟨Nat.le_of_ble_eq_true rfl, Nat.le_of_ble_eq_true rfl⟩ ⟨Nat.le_of_ble_eq_true rfl, Nat.le_of_ble_eq_true rfl⟩ (Nat.le_of_ble_eq_true rfl) dL_addParty_5 (fun c8 H locs q ce hw q1 q2 q3 => ?_) (fun c8 H locs hw => ?_)
  · have hf := xif_f c8 hf
    by_cases c10 : e1 = 2
    · subst c10
      have hf := xif_t rfl hf
      refine x_catch (pre := []) (x := (0, 10, 13, 13)) (suf := [(0, 10, 17, 15)]) (ec := 2) hc hT rfl (by decide) (List.forall_mem_nil _) (by decide) (by decide) w_classLink_RL_13_java_lang_IllegalArgumentException_ q1 q2 q3 ?_
      refine lv_astore (lv' := [(4, .ref q), (0, .ref (xAd κ 234)), (1, .int x1), (2, .int x2), (3, .ref (xAd κ 254))]) hx hb dL_addParty_13 hl (by decide) rfl (fun ls hl => ?_)
      refine lv_iconst (v := 1) hx hb dL_addParty_15 (by decide) ?_
      cases hf
      exact K _ _ _ _ _ _ (by decide) (by decide) dL_addParty_16 hw
    have hf := xif_f c10 hf
    by_cases c11 : e1 = 3
    · subst c11
      have hf := xif_t rfl hf
      refine x_catch (pre := [(0, 10, 13, 13)]) (x := (0, 10, 17, 15)) (suf := []) (ec := 3) hc hT rfl (by decide) (List.forall_mem_cons.mpr ⟨⟨by decide, "java/lang/IllegalArgumentException", by decide, w_classLink_RL_13_java_lang_IllegalArgumentException_, by decide⟩, List.forall_mem_nil _⟩) (by decide) (by decide) w_classLink_RL_15_java_lang_IllegalStateException_ q1 q2 q3 ?_
      refine lv_astore (lv' := [(4, .ref q), (0, .ref (xAd κ 234)), (1, .int x1), (2, .int x2), (3, .ref (xAd κ 254))]) hx hb dL_addParty_17 hl (by decide) rfl (fun ls hl => ?_)
      refine lv_iconst (v := 2) hx hb dL_addParty_19 (by decide) ?_
      cases hf
      exact K _ _ _ _ _ _ (by decide) (by decide) dL_addParty_20 hw
    have hf := xif_f c11 hf
    cases hf
  · have hf := xif_t c8 hf
    refine lv_i2l (v := v2.toInt64) hx hb dL_addParty_8 rfl ?_
    obtain ⟨k9, hf⟩ := xk_of hf
    refine x_last (n := 1) (f := uo) (σ' := (upA uA_3 0 (uP_4, uC, uD, uJ, ur, ut, ud, ug), (uT0, uT1, uT2, uT3, uT4, uT5, uT6, uT7, uT8), (uG0, uG1, uG2), (uM0, uM1_5, uM2_6, uM3, uM4), wF, (vp_updL uo (0 : Int32).toNatClampNeg v2.toInt64), uv)) hc hw co_254 k9 so_O_0 dL_addParty_9 (fun H locs hw => ?_)
    refine lv_goto (tgt := 21) hx hb dL_addParty_10 (by decide) ?_
    refine lv_iconst (v := 0) hx hb dL_addParty_21 (by decide) ?_
    cases hf
    exact K _ _ _ _ _ _ (by decide) (by decide) dL_addParty_22 hw
def f_L_setRate (x1 : Int32) (x2 : Int32) (uA : Nat → sAcc) (uP : sPar) (uC : sCla) (uD : sDeb) (uJ : sJou) (ur : xF32) (ut : xF32) (ud : Int32) (ug : Int32) (uM1 : Int32) (uM2 : Int32) (uM3 : Int32) (uo : xF64) : Option (Int32 × (Nat → sAcc) × xF32 × Int32 × Int32 × Int32 × xF64) :=
  xb7 (f_X7_setRate x1 x2 uA uP uC uD uJ ur ut ud ug uM1 uM2 uM3) fun e1 v2 uA_3 ur_4 uM1_5 uM2_6 uM3_7 => (if e1 = 0 then (xk (xin 0 1) (some (0, uA_3, ur_4, uM1_5, uM2_6, uM3_7, (vp_updL uo (0 : Int32).toNatClampNeg v2.toInt64)))) else (if e1 = 1 then (some (1, uA_3, ur_4, uM1_5, uM2_6, uM3_7, uo)) else (if e1 = 2 then (some (2, uA_3, ur_4, uM1_5, uM2_6, uM3_7, uo)) else (none))))
set_option maxHeartbeats 4000000 in
set_option maxRecDepth 100000 in
theorem m_L_setRate {l : Launch} {κ : xKt} {wF : sRef}  {x1 : Int32} {x2 : Int32} {uA : Nat → sAcc} {uP : sPar} {uC : sCla} {uD : sDeb} {uJ : sJou} {ur : xF32} {ut : xF32} {ud : Int32} {ug : Int32} {uT0 : Int32} {uT1 : xF32} {uT2 : Int32} {uT3 : Int32} {uT4 : Int32} {uT5 : xF32} {uT6 : xF32} {uT7 : xF32} {uT8 : xF32} {uG0 : Int32} {uG1 : xF32} {uG2 : xF32} {uM0 : Int32} {uM1 : Int32} {uM2 : Int32} {uM3 : Int32} {uM4 : Int32} {uo : xF64} {uv : Nat → UInt64} {rr : Int32} {yA : Nat → sAcc} {yr : xF32} {yM1 : Int32} {yM2 : Int32} {yM3 : Int32} {yo : xF64} (hf : f_L_setRate x1 x2 uA uP uC uD uJ ur ut ud ug uM1 uM2 uM3 uo = some (rr, yA, yr, yM1, yM2, yM3, yo)) : xHi l κ yL_setRate cL_setRate 5 (some .int) [(0, 10, 13, 20), (0, 10, 17, 13)] (xR 4 1 6) [.ref (xAd κ 234), .int x1, .int x2, .ref (xAd κ 254)] (upA uA 0 (uP, uC, uD, uJ, ur, ut, ud, ug), (uT0, uT1, uT2, uT3, uT4, uT5, uT6, uT7, uT8), (uG0, uG1, uG2), (uM0, uM1, uM2, uM3, uM4), wF, uo, uv) (upA yA 0 (uP, uC, uD, uJ, yr, ut, ud, ug), (uT0, uT1, uT2, uT3, uT4, uT5, uT6, uT7, uT8), (uG0, uG1, uG2), (uM0, yM1, yM2, yM3, uM4), wF, yo, uv) rr := by
  unfold f_L_setRate at hf
  refine xHi_of pn_L (Nat.le_of_ble_eq_true rfl) ?_
  intro A p e s m args below meth c ls Q hlt hc hT hw hl K
  have hc : xC κ A p s m args meth c cL_setRate RL 5 (some .int) := hc
  have hx := hc.1.1
  have hb := hc.1.2.1
  have hl : lv_has ls 5 [(0, .ref (xAd κ 234)), (1, .int x1), (2, .int x2), (3, .ref (xAd κ 254))] := hl
  refine lv_aload_n hx hb dL_setRate_0 rfl (lv_at hl 3 rfl) ?_
  refine lv_iconst (v := 0) hx hb dL_setRate_1 (by decide) ?_
  refine lv_aload_n hx hb dL_setRate_2 rfl (lv_at hl 0 rfl) ?_
  refine lv_iload_n hx hb dL_setRate_3 rfl (lv_at hl 1 rfl) ?_
  refine lv_iload_n hx hb dL_setRate_4 rfl (lv_at hl 2 rfl) ?_
  obtain ⟨e1, v2, uA_3, ur_4, uM1_5, uM2_6, uM3_7, h8, hf⟩ := xb7_of hf
  refine x_tcalliV (As := [.int x1, .int x2]) (rest := [.int 0, .ref (xAd κ 254)]) (σ' := (upA uA_3 0 (uP, uC, uD, uJ, ur_4, ut, ud, ug), (uT0, uT1, uT2, uT3, uT4, uT5, uT6, uT7, uT8), (uG0, uG1, uG2), (uM0, uM1_5, uM2_6, uM3_7, uM4), wF, uo, uv)) hc hw hl.1 hlt (m_X7_setRate h8) kL_17 co_234 rfl rfl ⟨rfl, rfl⟩ ⟨Nat.le_of_ble_eq_true rfl, Nat.le_of_ble_eq_true rfl⟩ ⟨Nat.le_of_ble_eq_true rfl, Nat.le_of_ble_eq_true rfl⟩ (Nat.le_of_ble_eq_true rfl) dL_setRate_5 (fun c9 H locs q ce hw q1 q2 q3 => ?_) (fun c9 H locs hw => ?_)
  · have hf := xif_f c9 hf
    by_cases c11 : e1 = 1
    · subst c11
      have hf := xif_t rfl hf
      refine x_catch (pre := []) (x := (0, 10, 13, 20)) (suf := [(0, 10, 17, 13)]) (ec := 1) hc hT rfl (by decide) (List.forall_mem_nil _) (by decide) (by decide) w_classLink_RL_20_java_lang_IndexOutOfBoundsException_ q1 q2 q3 ?_
      refine lv_astore (lv' := [(4, .ref q), (0, .ref (xAd κ 234)), (1, .int x1), (2, .int x2), (3, .ref (xAd κ 254))]) hx hb dL_setRate_13 hl (by decide) rfl (fun ls hl => ?_)
      refine lv_iconst (v := 1) hx hb dL_setRate_15 (by decide) ?_
      cases hf
      exact K _ _ _ _ _ _ (by decide) (by decide) dL_setRate_16 hw
    have hf := xif_f c11 hf
    by_cases c12 : e1 = 2
    · subst c12
      have hf := xif_t rfl hf
      refine x_catch (pre := [(0, 10, 13, 20)]) (x := (0, 10, 17, 13)) (suf := []) (ec := 2) hc hT rfl (by decide) (List.forall_mem_cons.mpr ⟨⟨by decide, "java/lang/IndexOutOfBoundsException", by decide, w_classLink_RL_20_java_lang_IndexOutOfBoundsException_, by decide⟩, List.forall_mem_nil _⟩) (by decide) (by decide) w_classLink_RL_13_java_lang_IllegalArgumentException_ q1 q2 q3 ?_
      refine lv_astore (lv' := [(4, .ref q), (0, .ref (xAd κ 234)), (1, .int x1), (2, .int x2), (3, .ref (xAd κ 254))]) hx hb dL_setRate_17 hl (by decide) rfl (fun ls hl => ?_)
      refine lv_iconst (v := 2) hx hb dL_setRate_19 (by decide) ?_
      cases hf
      exact K _ _ _ _ _ _ (by decide) (by decide) dL_setRate_20 hw
    have hf := xif_f c12 hf
    cases hf
  · have hf := xif_t c9 hf
    refine lv_i2l (v := v2.toInt64) hx hb dL_setRate_8 rfl ?_
    obtain ⟨k10, hf⟩ := xk_of hf
    refine x_last (n := 1) (f := uo) (σ' := (upA uA_3 0 (uP, uC, uD, uJ, ur_4, ut, ud, ug), (uT0, uT1, uT2, uT3, uT4, uT5, uT6, uT7, uT8), (uG0, uG1, uG2), (uM0, uM1_5, uM2_6, uM3_7, uM4), wF, (vp_updL uo (0 : Int32).toNatClampNeg v2.toInt64), uv)) hc hw co_254 k10 so_O_0 dL_setRate_9 (fun H locs hw => ?_)
    refine lv_goto (tgt := 21) hx hb dL_setRate_10 (by decide) ?_
    refine lv_iconst (v := 0) hx hb dL_setRate_21 (by decide) ?_
    cases hf
    exact K _ _ _ _ _ _ (by decide) (by decide) dL_setRate_22 hw
def f_L_setTier (x1 : Int32) (x2 : Int32) (uA : Nat → sAcc) (uP : sPar) (uC : sCla) (uD : sDeb) (uJ : sJou) (ur : xF32) (ut : xF32) (ud : Int32) (ug : Int32) (uM1 : Int32) (uM2 : Int32) (uM3 : Int32) (uo : xF64) : Option (Int32 × (Nat → sAcc) × xF32 × Int32 × Int32 × Int32 × xF64) :=
  xb7 (f_X7_setTier x1 x2 uA uP uC uD uJ ur ut ud ug uM1 uM2 uM3) fun e1 v2 uA_3 ut_4 uM1_5 uM2_6 uM3_7 => (if e1 = 0 then (xk (xin 0 1) (some (0, uA_3, ut_4, uM1_5, uM2_6, uM3_7, (vp_updL uo (0 : Int32).toNatClampNeg v2.toInt64)))) else (if e1 = 1 then (some (1, uA_3, ut_4, uM1_5, uM2_6, uM3_7, uo)) else (if e1 = 2 then (some (2, uA_3, ut_4, uM1_5, uM2_6, uM3_7, uo)) else (none))))
set_option maxHeartbeats 4000000 in
set_option maxRecDepth 100000 in
theorem m_L_setTier {l : Launch} {κ : xKt} {wF : sRef}  {x1 : Int32} {x2 : Int32} {uA : Nat → sAcc} {uP : sPar} {uC : sCla} {uD : sDeb} {uJ : sJou} {ur : xF32} {ut : xF32} {ud : Int32} {ug : Int32} {uT0 : Int32} {uT1 : xF32} {uT2 : Int32} {uT3 : Int32} {uT4 : Int32} {uT5 : xF32} {uT6 : xF32} {uT7 : xF32} {uT8 : xF32} {uG0 : Int32} {uG1 : xF32} {uG2 : xF32} {uM0 : Int32} {uM1 : Int32} {uM2 : Int32} {uM3 : Int32} {uM4 : Int32} {uo : xF64} {uv : Nat → UInt64} {rr : Int32} {yA : Nat → sAcc} {yt : xF32} {yM1 : Int32} {yM2 : Int32} {yM3 : Int32} {yo : xF64} (hf : f_L_setTier x1 x2 uA uP uC uD uJ ur ut ud ug uM1 uM2 uM3 uo = some (rr, yA, yt, yM1, yM2, yM3, yo)) : xHi l κ yL_setTier cL_setTier 5 (some .int) [(0, 10, 13, 20), (0, 10, 17, 13)] (xR 4 1 6) [.ref (xAd κ 234), .int x1, .int x2, .ref (xAd κ 254)] (upA uA 0 (uP, uC, uD, uJ, ur, ut, ud, ug), (uT0, uT1, uT2, uT3, uT4, uT5, uT6, uT7, uT8), (uG0, uG1, uG2), (uM0, uM1, uM2, uM3, uM4), wF, uo, uv) (upA yA 0 (uP, uC, uD, uJ, ur, yt, ud, ug), (uT0, uT1, uT2, uT3, uT4, uT5, uT6, uT7, uT8), (uG0, uG1, uG2), (uM0, yM1, yM2, yM3, uM4), wF, yo, uv) rr := by
  unfold f_L_setTier at hf
  refine xHi_of pn_L (Nat.le_of_ble_eq_true rfl) ?_
  intro A p e s m args below meth c ls Q hlt hc hT hw hl K
  have hc : xC κ A p s m args meth c cL_setTier RL 5 (some .int) := hc
  have hx := hc.1.1
  have hb := hc.1.2.1
  have hl : lv_has ls 5 [(0, .ref (xAd κ 234)), (1, .int x1), (2, .int x2), (3, .ref (xAd κ 254))] := hl
  refine lv_aload_n hx hb dL_setTier_0 rfl (lv_at hl 3 rfl) ?_
  refine lv_iconst (v := 0) hx hb dL_setTier_1 (by decide) ?_
  refine lv_aload_n hx hb dL_setTier_2 rfl (lv_at hl 0 rfl) ?_
  refine lv_iload_n hx hb dL_setTier_3 rfl (lv_at hl 1 rfl) ?_
  refine lv_iload_n hx hb dL_setTier_4 rfl (lv_at hl 2 rfl) ?_
  obtain ⟨e1, v2, uA_3, ut_4, uM1_5, uM2_6, uM3_7, h8, hf⟩ := xb7_of hf
  refine x_tcalliV (As := [.int x1, .int x2]) (rest := [.int 0, .ref (xAd κ 254)]) (σ' := (upA uA_3 0 (uP, uC, uD, uJ, ur, ut_4, ud, ug), (uT0, uT1, uT2, uT3, uT4, uT5, uT6, uT7, uT8), (uG0, uG1, uG2), (uM0, uM1_5, uM2_6, uM3_7, uM4), wF, uo, uv)) hc hw hl.1 hlt (m_X7_setTier h8) kL_22 co_234 rfl rfl ⟨rfl, rfl⟩ ⟨Nat.le_of_ble_eq_true rfl, Nat.le_of_ble_eq_true rfl⟩ ⟨Nat.le_of_ble_eq_true rfl, Nat.le_of_ble_eq_true rfl⟩ (Nat.le_of_ble_eq_true rfl) dL_setTier_5 (fun c9 H locs q ce hw q1 q2 q3 => ?_) (fun c9 H locs hw => ?_)
  · have hf := xif_f c9 hf
    by_cases c11 : e1 = 1
    · subst c11
      have hf := xif_t rfl hf
      refine x_catch (pre := []) (x := (0, 10, 13, 20)) (suf := [(0, 10, 17, 13)]) (ec := 1) hc hT rfl (by decide) (List.forall_mem_nil _) (by decide) (by decide) w_classLink_RL_20_java_lang_IndexOutOfBoundsException_ q1 q2 q3 ?_
      refine lv_astore (lv' := [(4, .ref q), (0, .ref (xAd κ 234)), (1, .int x1), (2, .int x2), (3, .ref (xAd κ 254))]) hx hb dL_setTier_13 hl (by decide) rfl (fun ls hl => ?_)
      refine lv_iconst (v := 1) hx hb dL_setTier_15 (by decide) ?_
      cases hf
      exact K _ _ _ _ _ _ (by decide) (by decide) dL_setTier_16 hw
    have hf := xif_f c11 hf
    by_cases c12 : e1 = 2
    · subst c12
      have hf := xif_t rfl hf
      refine x_catch (pre := [(0, 10, 13, 20)]) (x := (0, 10, 17, 13)) (suf := []) (ec := 2) hc hT rfl (by decide) (List.forall_mem_cons.mpr ⟨⟨by decide, "java/lang/IndexOutOfBoundsException", by decide, w_classLink_RL_20_java_lang_IndexOutOfBoundsException_, by decide⟩, List.forall_mem_nil _⟩) (by decide) (by decide) w_classLink_RL_13_java_lang_IllegalArgumentException_ q1 q2 q3 ?_
      refine lv_astore (lv' := [(4, .ref q), (0, .ref (xAd κ 234)), (1, .int x1), (2, .int x2), (3, .ref (xAd κ 254))]) hx hb dL_setTier_17 hl (by decide) rfl (fun ls hl => ?_)
      refine lv_iconst (v := 2) hx hb dL_setTier_19 (by decide) ?_
      cases hf
      exact K _ _ _ _ _ _ (by decide) (by decide) dL_setTier_20 hw
    have hf := xif_f c12 hf
    cases hf
  · have hf := xif_t c9 hf
    refine lv_i2l (v := v2.toInt64) hx hb dL_setTier_8 rfl ?_
    obtain ⟨k10, hf⟩ := xk_of hf
    refine x_last (n := 1) (f := uo) (σ' := (upA uA_3 0 (uP, uC, uD, uJ, ur, ut_4, ud, ug), (uT0, uT1, uT2, uT3, uT4, uT5, uT6, uT7, uT8), (uG0, uG1, uG2), (uM0, uM1_5, uM2_6, uM3_7, uM4), wF, (vp_updL uo (0 : Int32).toNatClampNeg v2.toInt64), uv)) hc hw co_254 k10 so_O_0 dL_setTier_9 (fun H locs hw => ?_)
    refine lv_goto (tgt := 21) hx hb dL_setTier_10 (by decide) ?_
    refine lv_iconst (v := 0) hx hb dL_setTier_21 (by decide) ?_
    cases hf
    exact K _ _ _ _ _ _ (by decide) (by decide) dL_setTier_22 hw
def f_L_party (fu : Nat) (x1 : Int32) (x2 : Int32) (uP : sPar) (uC : sCla) (uD : sDeb) (ut : xF32) (uM3 : Int32) (uo : xF64) : Option (Int32 × Int32 × xF64) :=
  xb3 (f_X7_party fu x1 x2 uP uC uD ut uM3) fun e1 v2 uM3_3 => (if e1 = 0 then (xk (xin 0 1) (some (0, uM3_3, (vp_updL uo (0 : Int32).toNatClampNeg v2)))) else (if e1 = 1 then (some (1, uM3_3, uo)) else (if e1 = 2 then (some (2, uM3_3, uo)) else (none))))
set_option maxHeartbeats 4000000 in
set_option maxRecDepth 100000 in
theorem m_L_party {l : Launch} {κ : xKt} {wF : sRef} {fu : Nat} {x1 : Int32} {x2 : Int32} {uA : Nat → sAcc} {uP : sPar} {uC : sCla} {uD : sDeb} {uJ : sJou} {ur : xF32} {ut : xF32} {ud : Int32} {ug : Int32} {uT0 : Int32} {uT1 : xF32} {uT2 : Int32} {uT3 : Int32} {uT4 : Int32} {uT5 : xF32} {uT6 : xF32} {uT7 : xF32} {uT8 : xF32} {uG0 : Int32} {uG1 : xF32} {uG2 : xF32} {uM0 : Int32} {uM1 : Int32} {uM2 : Int32} {uM3 : Int32} {uM4 : Int32} {uo : xF64} {uv : Nat → UInt64} {rr : Int32} {yM3 : Int32} {yo : xF64} (hf : f_L_party fu x1 x2 uP uC uD ut uM3 uo = some (rr, yM3, yo)) : xHi l κ yL_party cL_party 5 (some .int) [(0, 9, 12, 20), (0, 9, 16, 13)] (xR 7 1 6) [.ref (xAd κ 234), .int x1, .int x2, .ref (xAd κ 254)] (upA uA 0 (uP, uC, uD, uJ, ur, ut, ud, ug), (uT0, uT1, uT2, uT3, uT4, uT5, uT6, uT7, uT8), (uG0, uG1, uG2), (uM0, uM1, uM2, uM3, uM4), wF, uo, uv) (upA uA 0 (uP, uC, uD, uJ, ur, ut, ud, ug), (uT0, uT1, uT2, uT3, uT4, uT5, uT6, uT7, uT8), (uG0, uG1, uG2), (uM0, uM1, uM2, yM3, uM4), wF, yo, uv) rr := by
  unfold f_L_party at hf
  refine xHi_of pn_L (Nat.le_of_ble_eq_true rfl) ?_
  intro A p e s m args below meth c ls Q hlt hc hT hw hl K
  have hc : xC κ A p s m args meth c cL_party RL 5 (some .int) := hc
  have hx := hc.1.1
  have hb := hc.1.2.1
  have hl : lv_has ls 5 [(0, .ref (xAd κ 234)), (1, .int x1), (2, .int x2), (3, .ref (xAd κ 254))] := hl
  refine lv_aload_n hx hb dL_party_0 rfl (lv_at hl 3 rfl) ?_
  refine lv_iconst (v := 0) hx hb dL_party_1 (by decide) ?_
  refine lv_aload_n hx hb dL_party_2 rfl (lv_at hl 0 rfl) ?_
  refine lv_iload_n hx hb dL_party_3 rfl (lv_at hl 1 rfl) ?_
  refine lv_iload_n hx hb dL_party_4 rfl (lv_at hl 2 rfl) ?_
  obtain ⟨e1, v2, uM3_3, h4, hf⟩ := xb3_of hf
  refine x_tcalllV (As := [.int x1, .int x2]) (rest := [.int 0, .ref (xAd κ 254)]) (σ' := (upA uA 0 (uP, uC, uD, uJ, ur, ut, ud, ug), (uT0, uT1, uT2, uT3, uT4, uT5, uT6, uT7, uT8), (uG0, uG1, uG2), (uM0, uM1, uM2, uM3_3, uM4), wF, uo, uv)) hc hw hl.1 hlt (m_X7_party h4) kL_25 co_234 rfl rfl ⟨rfl, rfl⟩ ⟨Nat.le_of_ble_eq_true rfl, Nat.le_of_ble_eq_true rfl⟩ ⟨Nat.le_of_ble_eq_true rfl, Nat.le_of_ble_eq_true rfl⟩ (Nat.le_of_ble_eq_true rfl) dL_party_5 (fun c5 H locs q ce hw q1 q2 q3 => ?_) (fun c5 H locs hw => ?_)
  · have hf := xif_f c5 hf
    by_cases c7 : e1 = 1
    · subst c7
      have hf := xif_t rfl hf
      refine x_catch (pre := []) (x := (0, 9, 12, 20)) (suf := [(0, 9, 16, 13)]) (ec := 1) hc hT rfl (by decide) (List.forall_mem_nil _) (by decide) (by decide) w_classLink_RL_20_java_lang_IndexOutOfBoundsException_ q1 q2 q3 ?_
      refine lv_astore (lv' := [(4, .ref q), (0, .ref (xAd κ 234)), (1, .int x1), (2, .int x2), (3, .ref (xAd κ 254))]) hx hb dL_party_12 hl (by decide) rfl (fun ls hl => ?_)
      refine lv_iconst (v := 1) hx hb dL_party_14 (by decide) ?_
      cases hf
      exact K _ _ _ _ _ _ (by decide) (by decide) dL_party_15 hw
    have hf := xif_f c7 hf
    by_cases c8 : e1 = 2
    · subst c8
      have hf := xif_t rfl hf
      refine x_catch (pre := [(0, 9, 12, 20)]) (x := (0, 9, 16, 13)) (suf := []) (ec := 2) hc hT rfl (by decide) (List.forall_mem_cons.mpr ⟨⟨by decide, "java/lang/IndexOutOfBoundsException", by decide, w_classLink_RL_20_java_lang_IndexOutOfBoundsException_, by decide⟩, List.forall_mem_nil _⟩) (by decide) (by decide) w_classLink_RL_13_java_lang_IllegalArgumentException_ q1 q2 q3 ?_
      refine lv_astore (lv' := [(4, .ref q), (0, .ref (xAd κ 234)), (1, .int x1), (2, .int x2), (3, .ref (xAd κ 254))]) hx hb dL_party_16 hl (by decide) rfl (fun ls hl => ?_)
      refine lv_iconst (v := 2) hx hb dL_party_18 (by decide) ?_
      cases hf
      exact K _ _ _ _ _ _ (by decide) (by decide) dL_party_19 hw
    have hf := xif_f c8 hf
    cases hf
  · have hf := xif_t c5 hf
    obtain ⟨k6, hf⟩ := xk_of hf
    refine x_last (n := 1) (f := uo) (σ' := (upA uA 0 (uP, uC, uD, uJ, ur, ut, ud, ug), (uT0, uT1, uT2, uT3, uT4, uT5, uT6, uT7, uT8), (uG0, uG1, uG2), (uM0, uM1, uM2, uM3_3, uM4), wF, (vp_updL uo (0 : Int32).toNatClampNeg v2), uv)) hc hw co_254 k6 so_O_0 dL_party_8 (fun H locs hw => ?_)
    refine lv_goto (tgt := 20) hx hb dL_party_9 (by decide) ?_
    refine lv_iconst (v := 0) hx hb dL_party_20 (by decide) ?_
    cases hf
    exact K _ _ _ _ _ _ (by decide) (by decide) dL_party_21 hw
def f_L_claim (x1 : Int32) (x2 : Int32) (x3 : Int32) (uA : Nat → sAcc) (uP : sPar) (uC : sCla) (uD : sDeb) (uJ : sJou) (ur : xF32) (ut : xF32) (ud : Int32) (ug : Int32) (uM1 : Int32) (uM2 : Int32) (uM3 : Int32) (uo : xF64) : Option (Int32 × (Nat → sAcc) × sCla × Int32 × Int32 × Int32 × xF64) :=
  xb7 (f_X7_claim x1 x2 x3 uA uP uC uD uJ ur ut ud ug uM1 uM2 uM3) fun e1 v2 uA_3 uC_4 uM1_5 uM2_6 uM3_7 => (if e1 = 0 then (xk (xin 0 1) (some (0, uA_3, uC_4, uM1_5, uM2_6, uM3_7, (vp_updL uo (0 : Int32).toNatClampNeg v2.toInt64)))) else (if e1 = 1 then (some (1, uA_3, uC_4, uM1_5, uM2_6, uM3_7, uo)) else (if e1 = 2 then (some (2, uA_3, uC_4, uM1_5, uM2_6, uM3_7, uo)) else (if e1 = 3 then (some (3, uA_3, uC_4, uM1_5, uM2_6, uM3_7, uo)) else (none)))))
set_option maxHeartbeats 4000000 in
set_option maxRecDepth 100000 in
theorem m_L_claim {l : Launch} {κ : xKt} {wF : sRef}  {x1 : Int32} {x2 : Int32} {x3 : Int32} {uA : Nat → sAcc} {uP : sPar} {uC : sCla} {uD : sDeb} {uJ : sJou} {ur : xF32} {ut : xF32} {ud : Int32} {ug : Int32} {uT0 : Int32} {uT1 : xF32} {uT2 : Int32} {uT3 : Int32} {uT4 : Int32} {uT5 : xF32} {uT6 : xF32} {uT7 : xF32} {uT8 : xF32} {uG0 : Int32} {uG1 : xF32} {uG2 : xF32} {uM0 : Int32} {uM1 : Int32} {uM2 : Int32} {uM3 : Int32} {uM4 : Int32} {uo : xF64} {uv : Nat → UInt64} {rr : Int32} {yA : Nat → sAcc} {yC : sCla} {yM1 : Int32} {yM2 : Int32} {yM3 : Int32} {yo : xF64} (hf : f_L_claim x1 x2 x3 uA uP uC uD uJ ur ut ud ug uM1 uM2 uM3 uo = some (rr, yA, yC, yM1, yM2, yM3, yo)) : xHi l κ yL_claim cL_claim 6 (some .int) [(0, 12, 15, 20), (0, 12, 19, 13), (0, 12, 23, 15)] (xR 4 1 6) [.ref (xAd κ 234), .int x1, .int x2, .int x3, .ref (xAd κ 254)] (upA uA 0 (uP, uC, uD, uJ, ur, ut, ud, ug), (uT0, uT1, uT2, uT3, uT4, uT5, uT6, uT7, uT8), (uG0, uG1, uG2), (uM0, uM1, uM2, uM3, uM4), wF, uo, uv) (upA yA 0 (uP, yC, uD, uJ, ur, ut, ud, ug), (uT0, uT1, uT2, uT3, uT4, uT5, uT6, uT7, uT8), (uG0, uG1, uG2), (uM0, yM1, yM2, yM3, uM4), wF, yo, uv) rr := by
  unfold f_L_claim at hf
  refine xHi_of pn_L (Nat.le_of_ble_eq_true rfl) ?_
  intro A p e s m args below meth c ls Q hlt hc hT hw hl K
  have hc : xC κ A p s m args meth c cL_claim RL 6 (some .int) := hc
  have hx := hc.1.1
  have hb := hc.1.2.1
  have hl : lv_has ls 6 [(0, .ref (xAd κ 234)), (1, .int x1), (2, .int x2), (3, .int x3), (4, .ref (xAd κ 254))] := hl
  refine lv_aload hx hb dL_claim_0 (lv_at hl 4 rfl) ?_
  refine lv_iconst (v := 0) hx hb dL_claim_2 (by decide) ?_
  refine lv_aload_n hx hb dL_claim_3 rfl (lv_at hl 0 rfl) ?_
  refine lv_iload_n hx hb dL_claim_4 rfl (lv_at hl 1 rfl) ?_
  refine lv_iload_n hx hb dL_claim_5 rfl (lv_at hl 2 rfl) ?_
  refine lv_iload_n hx hb dL_claim_6 rfl (lv_at hl 3 rfl) ?_
  obtain ⟨e1, v2, uA_3, uC_4, uM1_5, uM2_6, uM3_7, h8, hf⟩ := xb7_of hf
  refine x_tcalliV (As := [.int x1, .int x2, .int x3]) (rest := [.int 0, .ref (xAd κ 254)]) (σ' := (upA uA_3 0 (uP, uC_4, uD, uJ, ur, ut, ud, ug), (uT0, uT1, uT2, uT3, uT4, uT5, uT6, uT7, uT8), (uG0, uG1, uG2), (uM0, uM1_5, uM2_6, uM3_7, uM4), wF, uo, uv)) hc hw hl.1 hlt (m_X7_claim h8) kL_29 co_234 rfl rfl ⟨rfl, rfl⟩ ⟨Nat.le_of_ble_eq_true rfl, Nat.le_of_ble_eq_true rfl⟩ ⟨Nat.le_of_ble_eq_true rfl, Nat.le_of_ble_eq_true rfl⟩ (Nat.le_of_ble_eq_true rfl) dL_claim_7 (fun c9 H locs q ce hw q1 q2 q3 => ?_) (fun c9 H locs hw => ?_)
  · have hf := xif_f c9 hf
    by_cases c11 : e1 = 1
    · subst c11
      have hf := xif_t rfl hf
      refine x_catch (pre := []) (x := (0, 12, 15, 20)) (suf := [(0, 12, 19, 13), (0, 12, 23, 15)]) (ec := 1) hc hT rfl (by decide) (List.forall_mem_nil _) (by decide) (by decide) w_classLink_RL_20_java_lang_IndexOutOfBoundsException_ q1 q2 q3 ?_
      refine lv_astore (lv' := [(5, .ref q), (0, .ref (xAd κ 234)), (1, .int x1), (2, .int x2), (3, .int x3), (4, .ref (xAd κ 254))]) hx hb dL_claim_15 hl (by decide) rfl (fun ls hl => ?_)
      refine lv_iconst (v := 1) hx hb dL_claim_17 (by decide) ?_
      cases hf
      exact K _ _ _ _ _ _ (by decide) (by decide) dL_claim_18 hw
    have hf := xif_f c11 hf
    by_cases c12 : e1 = 2
    · subst c12
      have hf := xif_t rfl hf
      refine x_catch (pre := [(0, 12, 15, 20)]) (x := (0, 12, 19, 13)) (suf := [(0, 12, 23, 15)]) (ec := 2) hc hT rfl (by decide) (List.forall_mem_cons.mpr ⟨⟨by decide, "java/lang/IndexOutOfBoundsException", by decide, w_classLink_RL_20_java_lang_IndexOutOfBoundsException_, by decide⟩, List.forall_mem_nil _⟩) (by decide) (by decide) w_classLink_RL_13_java_lang_IllegalArgumentException_ q1 q2 q3 ?_
      refine lv_astore (lv' := [(5, .ref q), (0, .ref (xAd κ 234)), (1, .int x1), (2, .int x2), (3, .int x3), (4, .ref (xAd κ 254))]) hx hb dL_claim_19 hl (by decide) rfl (fun ls hl => ?_)
      refine lv_iconst (v := 2) hx hb dL_claim_21 (by decide) ?_
      cases hf
      exact K _ _ _ _ _ _ (by decide) (by decide) dL_claim_22 hw
    have hf := xif_f c12 hf
    by_cases c13 : e1 = 3
    · subst c13
      have hf := xif_t rfl hf
      refine x_catch (pre := [(0, 12, 15, 20), (0, 12, 19, 13)]) (x := (0, 12, 23, 15)) (suf := []) (ec := 3) hc hT rfl (by decide) (List.forall_mem_cons.mpr ⟨⟨by decide, "java/lang/IndexOutOfBoundsException", by decide, w_classLink_RL_20_java_lang_IndexOutOfBoundsException_, by decide⟩, List.forall_mem_cons.mpr ⟨⟨by decide, "java/lang/IllegalArgumentException", by decide, w_classLink_RL_13_java_lang_IllegalArgumentException_, by decide⟩, List.forall_mem_nil _⟩⟩) (by decide) (by decide) w_classLink_RL_15_java_lang_IllegalStateException_ q1 q2 q3 ?_
      refine lv_astore (lv' := [(5, .ref q), (0, .ref (xAd κ 234)), (1, .int x1), (2, .int x2), (3, .int x3), (4, .ref (xAd κ 254))]) hx hb dL_claim_23 hl (by decide) rfl (fun ls hl => ?_)
      refine lv_iconst (v := 3) hx hb dL_claim_25 (by decide) ?_
      cases hf
      exact K _ _ _ _ _ _ (by decide) (by decide) dL_claim_26 hw
    have hf := xif_f c13 hf
    cases hf
  · have hf := xif_t c9 hf
    refine lv_i2l (v := v2.toInt64) hx hb dL_claim_10 rfl ?_
    obtain ⟨k10, hf⟩ := xk_of hf
    refine x_last (n := 1) (f := uo) (σ' := (upA uA_3 0 (uP, uC_4, uD, uJ, ur, ut, ud, ug), (uT0, uT1, uT2, uT3, uT4, uT5, uT6, uT7, uT8), (uG0, uG1, uG2), (uM0, uM1_5, uM2_6, uM3_7, uM4), wF, (vp_updL uo (0 : Int32).toNatClampNeg v2.toInt64), uv)) hc hw co_254 k10 so_O_0 dL_claim_11 (fun H locs hw => ?_)
    refine lv_goto (tgt := 27) hx hb dL_claim_12 (by decide) ?_
    refine lv_iconst (v := 0) hx hb dL_claim_27 (by decide) ?_
    cases hf
    exact K _ _ _ _ _ _ (by decide) (by decide) dL_claim_28 hw
def f_L_award (fu : Nat) (x1 : Int32) (x2 : Int32) (uA : Nat → sAcc) (uP : sPar) (uC : sCla) (uD : sDeb) (uJ : sJou) (ur : xF32) (ut : xF32) (ud : Int32) (ug : Int32) (uM1 : Int32) (uM2 : Int32) (uM3 : Int32) (uo : xF64) : Option (Int32 × (Nat → sAcc) × sCla × sDeb × sJou × Int32 × Int32 × Int32 × xF64) :=
  xb9 (f_X7_award fu x1 x2 uA uP uC uD uJ ur ut ud ug uM1 uM2 uM3) fun e1 v2 uA_3 uC_4 uD_5 uJ_6 uM1_7 uM2_8 uM3_9 => (if e1 = 0 then (xk (xin 0 1) (some (0, uA_3, uC_4, uD_5, uJ_6, uM1_7, uM2_8, uM3_9, (vp_updL uo (0 : Int32).toNatClampNeg v2.toInt64)))) else (if e1 = 1 then (some (1, uA_3, uC_4, uD_5, uJ_6, uM1_7, uM2_8, uM3_9, uo)) else (if e1 = 2 then (some (2, uA_3, uC_4, uD_5, uJ_6, uM1_7, uM2_8, uM3_9, uo)) else (if e1 = 4 then (some (3, uA_3, uC_4, uD_5, uJ_6, uM1_7, uM2_8, uM3_9, uo)) else (none)))))
set_option maxHeartbeats 4000000 in
set_option maxRecDepth 100000 in
theorem m_L_award {l : Launch} {κ : xKt} {wF : sRef} {fu : Nat} {x1 : Int32} {x2 : Int32} {uA : Nat → sAcc} {uP : sPar} {uC : sCla} {uD : sDeb} {uJ : sJou} {ur : xF32} {ut : xF32} {ud : Int32} {ug : Int32} {uT0 : Int32} {uT1 : xF32} {uT2 : Int32} {uT3 : Int32} {uT4 : Int32} {uT5 : xF32} {uT6 : xF32} {uT7 : xF32} {uT8 : xF32} {uG0 : Int32} {uG1 : xF32} {uG2 : xF32} {uM0 : Int32} {uM1 : Int32} {uM2 : Int32} {uM3 : Int32} {uM4 : Int32} {uo : xF64} {uv : Nat → UInt64} {rr : Int32} {yA : Nat → sAcc} {yC : sCla} {yD : sDeb} {yJ : sJou} {yM1 : Int32} {yM2 : Int32} {yM3 : Int32} {yo : xF64} (hf : f_L_award fu x1 x2 uA uP uC uD uJ ur ut ud ug uM1 uM2 uM3 uo = some (rr, yA, yC, yD, yJ, yM1, yM2, yM3, yo)) : xHi l κ yL_award cL_award 5 (some .int) [(0, 10, 13, 20), (0, 10, 17, 13), (0, 10, 21, 36)] (xR 4 1 6) [.ref (xAd κ 234), .int x1, .int x2, .ref (xAd κ 254)] (upA uA 0 (uP, uC, uD, uJ, ur, ut, ud, ug), (uT0, uT1, uT2, uT3, uT4, uT5, uT6, uT7, uT8), (uG0, uG1, uG2), (uM0, uM1, uM2, uM3, uM4), wF, uo, uv) (upA yA 0 (uP, yC, yD, yJ, ur, ut, ud, ug), (uT0, uT1, uT2, uT3, uT4, uT5, uT6, uT7, uT8), (uG0, uG1, uG2), (uM0, yM1, yM2, yM3, uM4), wF, yo, uv) rr := by
  unfold f_L_award at hf
  refine xHi_of pn_L (Nat.le_of_ble_eq_true rfl) ?_
  intro A p e s m args below meth c ls Q hlt hc hT hw hl K
  have hc : xC κ A p s m args meth c cL_award RL 5 (some .int) := hc
  have hx := hc.1.1
  have hb := hc.1.2.1
  have hl : lv_has ls 5 [(0, .ref (xAd κ 234)), (1, .int x1), (2, .int x2), (3, .ref (xAd κ 254))] := hl
  refine lv_aload_n hx hb dL_award_0 rfl (lv_at hl 3 rfl) ?_
  refine lv_iconst (v := 0) hx hb dL_award_1 (by decide) ?_
  refine lv_aload_n hx hb dL_award_2 rfl (lv_at hl 0 rfl) ?_
  refine lv_iload_n hx hb dL_award_3 rfl (lv_at hl 1 rfl) ?_
  refine lv_iload_n hx hb dL_award_4 rfl (lv_at hl 2 rfl) ?_
  obtain ⟨e1, v2, uA_3, uC_4, uD_5, uJ_6, uM1_7, uM2_8, uM3_9, h10, hf⟩ := xb9_of hf
  refine x_tcalliV (As := [.int x1, .int x2]) (rest := [.int 0, .ref (xAd κ 254)]) (σ' := (upA uA_3 0 (uP, uC_4, uD_5, uJ_6, ur, ut, ud, ug), (uT0, uT1, uT2, uT3, uT4, uT5, uT6, uT7, uT8), (uG0, uG1, uG2), (uM0, uM1_7, uM2_8, uM3_9, uM4), wF, uo, uv)) hc hw hl.1 hlt (m_X7_award h10) kL_33 co_234 rfl rfl ⟨rfl, rfl⟩ ⟨Nat.le_of_ble_eq_true rfl, Nat.le_of_ble_eq_true rfl⟩ ⟨Nat.le_of_ble_eq_true rfl, Nat.le_of_ble_eq_true rfl⟩ (Nat.le_of_ble_eq_true rfl) dL_award_5 (fun c11 H locs q ce hw q1 q2 q3 => ?_) (fun c11 H locs hw => ?_)
  · have hf := xif_f c11 hf
    by_cases c13 : e1 = 1
    · subst c13
      have hf := xif_t rfl hf
      refine x_catch (pre := []) (x := (0, 10, 13, 20)) (suf := [(0, 10, 17, 13), (0, 10, 21, 36)]) (ec := 1) hc hT rfl (by decide) (List.forall_mem_nil _) (by decide) (by decide) w_classLink_RL_20_java_lang_IndexOutOfBoundsException_ q1 q2 q3 ?_
      refine lv_astore (lv' := [(4, .ref q), (0, .ref (xAd κ 234)), (1, .int x1), (2, .int x2), (3, .ref (xAd κ 254))]) hx hb dL_award_13 hl (by decide) rfl (fun ls hl => ?_)
      refine lv_iconst (v := 1) hx hb dL_award_15 (by decide) ?_
      cases hf
      exact K _ _ _ _ _ _ (by decide) (by decide) dL_award_16 hw
    have hf := xif_f c13 hf
    by_cases c14 : e1 = 2
    · subst c14
      have hf := xif_t rfl hf
      refine x_catch (pre := [(0, 10, 13, 20)]) (x := (0, 10, 17, 13)) (suf := [(0, 10, 21, 36)]) (ec := 2) hc hT rfl (by decide) (List.forall_mem_cons.mpr ⟨⟨by decide, "java/lang/IndexOutOfBoundsException", by decide, w_classLink_RL_20_java_lang_IndexOutOfBoundsException_, by decide⟩, List.forall_mem_nil _⟩) (by decide) (by decide) w_classLink_RL_13_java_lang_IllegalArgumentException_ q1 q2 q3 ?_
      refine lv_astore (lv' := [(4, .ref q), (0, .ref (xAd κ 234)), (1, .int x1), (2, .int x2), (3, .ref (xAd κ 254))]) hx hb dL_award_17 hl (by decide) rfl (fun ls hl => ?_)
      refine lv_iconst (v := 2) hx hb dL_award_19 (by decide) ?_
      cases hf
      exact K _ _ _ _ _ _ (by decide) (by decide) dL_award_20 hw
    have hf := xif_f c14 hf
    by_cases c15 : e1 = 4
    · subst c15
      have hf := xif_t rfl hf
      refine x_catch (pre := [(0, 10, 13, 20), (0, 10, 17, 13)]) (x := (0, 10, 21, 36)) (suf := []) (ec := 4) hc hT rfl (by decide) (List.forall_mem_cons.mpr ⟨⟨by decide, "java/lang/IndexOutOfBoundsException", by decide, w_classLink_RL_20_java_lang_IndexOutOfBoundsException_, by decide⟩, List.forall_mem_cons.mpr ⟨⟨by decide, "java/lang/IllegalArgumentException", by decide, w_classLink_RL_13_java_lang_IllegalArgumentException_, by decide⟩, List.forall_mem_nil _⟩⟩) (by decide) (by decide) w_classLink_RL_36_java_lang_UnsupportedOperationException_ q1 q2 q3 ?_
      refine lv_astore (lv' := [(4, .ref q), (0, .ref (xAd κ 234)), (1, .int x1), (2, .int x2), (3, .ref (xAd κ 254))]) hx hb dL_award_21 hl (by decide) rfl (fun ls hl => ?_)
      refine lv_iconst (v := 3) hx hb dL_award_23 (by decide) ?_
      cases hf
      exact K _ _ _ _ _ _ (by decide) (by decide) dL_award_24 hw
    have hf := xif_f c15 hf
    cases hf
  · have hf := xif_t c11 hf
    refine lv_i2l (v := v2.toInt64) hx hb dL_award_8 rfl ?_
    obtain ⟨k12, hf⟩ := xk_of hf
    refine x_last (n := 1) (f := uo) (σ' := (upA uA_3 0 (uP, uC_4, uD_5, uJ_6, ur, ut, ud, ug), (uT0, uT1, uT2, uT3, uT4, uT5, uT6, uT7, uT8), (uG0, uG1, uG2), (uM0, uM1_7, uM2_8, uM3_9, uM4), wF, (vp_updL uo (0 : Int32).toNatClampNeg v2.toInt64), uv)) hc hw co_254 k12 so_O_0 dL_award_9 (fun H locs hw => ?_)
    refine lv_goto (tgt := 25) hx hb dL_award_10 (by decide) ?_
    refine lv_iconst (v := 0) hx hb dL_award_25 (by decide) ?_
    cases hf
    exact K _ _ _ _ _ _ (by decide) (by decide) dL_award_26 hw
def f_L_dismiss (fu : Nat) (x1 : Int32) (x2 : Int32) (uA : Nat → sAcc) (uP : sPar) (uC : sCla) (uD : sDeb) (uJ : sJou) (ur : xF32) (ut : xF32) (ud : Int32) (ug : Int32) (uM1 : Int32) (uM2 : Int32) (uM3 : Int32) (uo : xF64) : Option (Int32 × (Nat → sAcc) × sCla × sJou × Int32 × Int32 × Int32 × xF64) :=
  xb8 (f_X7_dismiss fu x1 x2 uA uP uC uD uJ ur ut ud ug uM1 uM2 uM3) fun e1 v2 uA_3 uC_4 uJ_5 uM1_6 uM2_7 uM3_8 => (if e1 = 0 then (xk (xin 0 1) (some (0, uA_3, uC_4, uJ_5, uM1_6, uM2_7, uM3_8, (vp_updL uo (0 : Int32).toNatClampNeg v2.toInt64)))) else (if e1 = 1 then (some (1, uA_3, uC_4, uJ_5, uM1_6, uM2_7, uM3_8, uo)) else (if e1 = 2 then (some (2, uA_3, uC_4, uJ_5, uM1_6, uM2_7, uM3_8, uo)) else (if e1 = 4 then (some (3, uA_3, uC_4, uJ_5, uM1_6, uM2_7, uM3_8, uo)) else (none)))))
set_option maxHeartbeats 4000000 in
set_option maxRecDepth 100000 in
theorem m_L_dismiss {l : Launch} {κ : xKt} {wF : sRef} {fu : Nat} {x1 : Int32} {x2 : Int32} {uA : Nat → sAcc} {uP : sPar} {uC : sCla} {uD : sDeb} {uJ : sJou} {ur : xF32} {ut : xF32} {ud : Int32} {ug : Int32} {uT0 : Int32} {uT1 : xF32} {uT2 : Int32} {uT3 : Int32} {uT4 : Int32} {uT5 : xF32} {uT6 : xF32} {uT7 : xF32} {uT8 : xF32} {uG0 : Int32} {uG1 : xF32} {uG2 : xF32} {uM0 : Int32} {uM1 : Int32} {uM2 : Int32} {uM3 : Int32} {uM4 : Int32} {uo : xF64} {uv : Nat → UInt64} {rr : Int32} {yA : Nat → sAcc} {yC : sCla} {yJ : sJou} {yM1 : Int32} {yM2 : Int32} {yM3 : Int32} {yo : xF64} (hf : f_L_dismiss fu x1 x2 uA uP uC uD uJ ur ut ud ug uM1 uM2 uM3 uo = some (rr, yA, yC, yJ, yM1, yM2, yM3, yo)) : xHi l κ yL_dismiss cL_dismiss 5 (some .int) [(0, 10, 13, 20), (0, 10, 17, 13), (0, 10, 21, 36)] (xR 4 1 6) [.ref (xAd κ 234), .int x1, .int x2, .ref (xAd κ 254)] (upA uA 0 (uP, uC, uD, uJ, ur, ut, ud, ug), (uT0, uT1, uT2, uT3, uT4, uT5, uT6, uT7, uT8), (uG0, uG1, uG2), (uM0, uM1, uM2, uM3, uM4), wF, uo, uv) (upA yA 0 (uP, yC, uD, yJ, ur, ut, ud, ug), (uT0, uT1, uT2, uT3, uT4, uT5, uT6, uT7, uT8), (uG0, uG1, uG2), (uM0, yM1, yM2, yM3, uM4), wF, yo, uv) rr := by
  unfold f_L_dismiss at hf
  refine xHi_of pn_L (Nat.le_of_ble_eq_true rfl) ?_
  intro A p e s m args below meth c ls Q hlt hc hT hw hl K
  have hc : xC κ A p s m args meth c cL_dismiss RL 5 (some .int) := hc
  have hx := hc.1.1
  have hb := hc.1.2.1
  have hl : lv_has ls 5 [(0, .ref (xAd κ 234)), (1, .int x1), (2, .int x2), (3, .ref (xAd κ 254))] := hl
  refine lv_aload_n hx hb dL_dismiss_0 rfl (lv_at hl 3 rfl) ?_
  refine lv_iconst (v := 0) hx hb dL_dismiss_1 (by decide) ?_
  refine lv_aload_n hx hb dL_dismiss_2 rfl (lv_at hl 0 rfl) ?_
  refine lv_iload_n hx hb dL_dismiss_3 rfl (lv_at hl 1 rfl) ?_
  refine lv_iload_n hx hb dL_dismiss_4 rfl (lv_at hl 2 rfl) ?_
  obtain ⟨e1, v2, uA_3, uC_4, uJ_5, uM1_6, uM2_7, uM3_8, h9, hf⟩ := xb8_of hf
  refine x_tcalliV (As := [.int x1, .int x2]) (rest := [.int 0, .ref (xAd κ 254)]) (σ' := (upA uA_3 0 (uP, uC_4, uD, uJ_5, ur, ut, ud, ug), (uT0, uT1, uT2, uT3, uT4, uT5, uT6, uT7, uT8), (uG0, uG1, uG2), (uM0, uM1_6, uM2_7, uM3_8, uM4), wF, uo, uv)) hc hw hl.1 hlt (m_X7_dismiss h9) kL_38 co_234 rfl rfl ⟨rfl, rfl⟩ ⟨Nat.le_of_ble_eq_true rfl, Nat.le_of_ble_eq_true rfl⟩ ⟨Nat.le_of_ble_eq_true rfl, Nat.le_of_ble_eq_true rfl⟩ (Nat.le_of_ble_eq_true rfl) dL_dismiss_5 (fun c10 H locs q ce hw q1 q2 q3 => ?_) (fun c10 H locs hw => ?_)
  · have hf := xif_f c10 hf
    by_cases c12 : e1 = 1
    · subst c12
      have hf := xif_t rfl hf
      refine x_catch (pre := []) (x := (0, 10, 13, 20)) (suf := [(0, 10, 17, 13), (0, 10, 21, 36)]) (ec := 1) hc hT rfl (by decide) (List.forall_mem_nil _) (by decide) (by decide) w_classLink_RL_20_java_lang_IndexOutOfBoundsException_ q1 q2 q3 ?_
      refine lv_astore (lv' := [(4, .ref q), (0, .ref (xAd κ 234)), (1, .int x1), (2, .int x2), (3, .ref (xAd κ 254))]) hx hb dL_dismiss_13 hl (by decide) rfl (fun ls hl => ?_)
      refine lv_iconst (v := 1) hx hb dL_dismiss_15 (by decide) ?_
      cases hf
      exact K _ _ _ _ _ _ (by decide) (by decide) dL_dismiss_16 hw
    have hf := xif_f c12 hf
    by_cases c13 : e1 = 2
    · subst c13
      have hf := xif_t rfl hf
      refine x_catch (pre := [(0, 10, 13, 20)]) (x := (0, 10, 17, 13)) (suf := [(0, 10, 21, 36)]) (ec := 2) hc hT rfl (by decide) (List.forall_mem_cons.mpr ⟨⟨by decide, "java/lang/IndexOutOfBoundsException", by decide, w_classLink_RL_20_java_lang_IndexOutOfBoundsException_, by decide⟩, List.forall_mem_nil _⟩) (by decide) (by decide) w_classLink_RL_13_java_lang_IllegalArgumentException_ q1 q2 q3 ?_
      refine lv_astore (lv' := [(4, .ref q), (0, .ref (xAd κ 234)), (1, .int x1), (2, .int x2), (3, .ref (xAd κ 254))]) hx hb dL_dismiss_17 hl (by decide) rfl (fun ls hl => ?_)
      refine lv_iconst (v := 2) hx hb dL_dismiss_19 (by decide) ?_
      cases hf
      exact K _ _ _ _ _ _ (by decide) (by decide) dL_dismiss_20 hw
    have hf := xif_f c13 hf
    by_cases c14 : e1 = 4
    · subst c14
      have hf := xif_t rfl hf
      refine x_catch (pre := [(0, 10, 13, 20), (0, 10, 17, 13)]) (x := (0, 10, 21, 36)) (suf := []) (ec := 4) hc hT rfl (by decide) (List.forall_mem_cons.mpr ⟨⟨by decide, "java/lang/IndexOutOfBoundsException", by decide, w_classLink_RL_20_java_lang_IndexOutOfBoundsException_, by decide⟩, List.forall_mem_cons.mpr ⟨⟨by decide, "java/lang/IllegalArgumentException", by decide, w_classLink_RL_13_java_lang_IllegalArgumentException_, by decide⟩, List.forall_mem_nil _⟩⟩) (by decide) (by decide) w_classLink_RL_36_java_lang_UnsupportedOperationException_ q1 q2 q3 ?_
      refine lv_astore (lv' := [(4, .ref q), (0, .ref (xAd κ 234)), (1, .int x1), (2, .int x2), (3, .ref (xAd κ 254))]) hx hb dL_dismiss_21 hl (by decide) rfl (fun ls hl => ?_)
      refine lv_iconst (v := 3) hx hb dL_dismiss_23 (by decide) ?_
      cases hf
      exact K _ _ _ _ _ _ (by decide) (by decide) dL_dismiss_24 hw
    have hf := xif_f c14 hf
    cases hf
  · have hf := xif_t c10 hf
    refine lv_i2l (v := v2.toInt64) hx hb dL_dismiss_8 rfl ?_
    obtain ⟨k11, hf⟩ := xk_of hf
    refine x_last (n := 1) (f := uo) (σ' := (upA uA_3 0 (uP, uC_4, uD, uJ_5, ur, ut, ud, ug), (uT0, uT1, uT2, uT3, uT4, uT5, uT6, uT7, uT8), (uG0, uG1, uG2), (uM0, uM1_6, uM2_7, uM3_8, uM4), wF, (vp_updL uo (0 : Int32).toNatClampNeg v2.toInt64), uv)) hc hw co_254 k11 so_O_0 dL_dismiss_9 (fun H locs hw => ?_)
    refine lv_goto (tgt := 25) hx hb dL_dismiss_10 (by decide) ?_
    refine lv_iconst (v := 0) hx hb dL_dismiss_25 (by decide) ?_
    cases hf
    exact K _ _ _ _ _ _ (by decide) (by decide) dL_dismiss_26 hw
def f_L_withdraw (fu : Nat) (x1 : Int32) (x2 : Int32) (uA : Nat → sAcc) (uP : sPar) (uC : sCla) (uD : sDeb) (uJ : sJou) (ur : xF32) (ut : xF32) (ud : Int32) (ug : Int32) (uM1 : Int32) (uM2 : Int32) (uM3 : Int32) (uo : xF64) : Option (Int32 × (Nat → sAcc) × sCla × sJou × Int32 × Int32 × Int32 × xF64) :=
  xb8 (f_X7_withdraw fu x1 x2 uA uP uC uD uJ ur ut ud ug uM1 uM2 uM3) fun e1 v2 uA_3 uC_4 uJ_5 uM1_6 uM2_7 uM3_8 => (if e1 = 0 then (xk (xin 0 1) (some (0, uA_3, uC_4, uJ_5, uM1_6, uM2_7, uM3_8, (vp_updL uo (0 : Int32).toNatClampNeg v2.toInt64)))) else (if e1 = 1 then (some (1, uA_3, uC_4, uJ_5, uM1_6, uM2_7, uM3_8, uo)) else (if e1 = 2 then (some (2, uA_3, uC_4, uJ_5, uM1_6, uM2_7, uM3_8, uo)) else (if e1 = 4 then (some (3, uA_3, uC_4, uJ_5, uM1_6, uM2_7, uM3_8, uo)) else (none)))))
set_option maxHeartbeats 4000000 in
set_option maxRecDepth 100000 in
theorem m_L_withdraw {l : Launch} {κ : xKt} {wF : sRef} {fu : Nat} {x1 : Int32} {x2 : Int32} {uA : Nat → sAcc} {uP : sPar} {uC : sCla} {uD : sDeb} {uJ : sJou} {ur : xF32} {ut : xF32} {ud : Int32} {ug : Int32} {uT0 : Int32} {uT1 : xF32} {uT2 : Int32} {uT3 : Int32} {uT4 : Int32} {uT5 : xF32} {uT6 : xF32} {uT7 : xF32} {uT8 : xF32} {uG0 : Int32} {uG1 : xF32} {uG2 : xF32} {uM0 : Int32} {uM1 : Int32} {uM2 : Int32} {uM3 : Int32} {uM4 : Int32} {uo : xF64} {uv : Nat → UInt64} {rr : Int32} {yA : Nat → sAcc} {yC : sCla} {yJ : sJou} {yM1 : Int32} {yM2 : Int32} {yM3 : Int32} {yo : xF64} (hf : f_L_withdraw fu x1 x2 uA uP uC uD uJ ur ut ud ug uM1 uM2 uM3 uo = some (rr, yA, yC, yJ, yM1, yM2, yM3, yo)) : xHi l κ yL_withdraw cL_withdraw 5 (some .int) [(0, 10, 13, 20), (0, 10, 17, 13), (0, 10, 21, 36)] (xR 4 1 6) [.ref (xAd κ 234), .int x1, .int x2, .ref (xAd κ 254)] (upA uA 0 (uP, uC, uD, uJ, ur, ut, ud, ug), (uT0, uT1, uT2, uT3, uT4, uT5, uT6, uT7, uT8), (uG0, uG1, uG2), (uM0, uM1, uM2, uM3, uM4), wF, uo, uv) (upA yA 0 (uP, yC, uD, yJ, ur, ut, ud, ug), (uT0, uT1, uT2, uT3, uT4, uT5, uT6, uT7, uT8), (uG0, uG1, uG2), (uM0, yM1, yM2, yM3, uM4), wF, yo, uv) rr := by
  unfold f_L_withdraw at hf
  refine xHi_of pn_L (Nat.le_of_ble_eq_true rfl) ?_
  intro A p e s m args below meth c ls Q hlt hc hT hw hl K
  have hc : xC κ A p s m args meth c cL_withdraw RL 5 (some .int) := hc
  have hx := hc.1.1
  have hb := hc.1.2.1
  have hl : lv_has ls 5 [(0, .ref (xAd κ 234)), (1, .int x1), (2, .int x2), (3, .ref (xAd κ 254))] := hl
  refine lv_aload_n hx hb dL_withdraw_0 rfl (lv_at hl 3 rfl) ?_
  refine lv_iconst (v := 0) hx hb dL_withdraw_1 (by decide) ?_
  refine lv_aload_n hx hb dL_withdraw_2 rfl (lv_at hl 0 rfl) ?_
  refine lv_iload_n hx hb dL_withdraw_3 rfl (lv_at hl 1 rfl) ?_
  refine lv_iload_n hx hb dL_withdraw_4 rfl (lv_at hl 2 rfl) ?_
  obtain ⟨e1, v2, uA_3, uC_4, uJ_5, uM1_6, uM2_7, uM3_8, h9, hf⟩ := xb8_of hf
  refine x_tcalliV (As := [.int x1, .int x2]) (rest := [.int 0, .ref (xAd κ 254)]) (σ' := (upA uA_3 0 (uP, uC_4, uD, uJ_5, ur, ut, ud, ug), (uT0, uT1, uT2, uT3, uT4, uT5, uT6, uT7, uT8), (uG0, uG1, uG2), (uM0, uM1_6, uM2_7, uM3_8, uM4), wF, uo, uv)) hc hw hl.1 hlt (m_X7_withdraw h9) kL_41 co_234 rfl rfl ⟨rfl, rfl⟩ ⟨Nat.le_of_ble_eq_true rfl, Nat.le_of_ble_eq_true rfl⟩ ⟨Nat.le_of_ble_eq_true rfl, Nat.le_of_ble_eq_true rfl⟩ (Nat.le_of_ble_eq_true rfl) dL_withdraw_5 (fun c10 H locs q ce hw q1 q2 q3 => ?_) (fun c10 H locs hw => ?_)
  · have hf := xif_f c10 hf
    by_cases c12 : e1 = 1
    · subst c12
      have hf := xif_t rfl hf
      refine x_catch (pre := []) (x := (0, 10, 13, 20)) (suf := [(0, 10, 17, 13), (0, 10, 21, 36)]) (ec := 1) hc hT rfl (by decide) (List.forall_mem_nil _) (by decide) (by decide) w_classLink_RL_20_java_lang_IndexOutOfBoundsException_ q1 q2 q3 ?_
      refine lv_astore (lv' := [(4, .ref q), (0, .ref (xAd κ 234)), (1, .int x1), (2, .int x2), (3, .ref (xAd κ 254))]) hx hb dL_withdraw_13 hl (by decide) rfl (fun ls hl => ?_)
      refine lv_iconst (v := 1) hx hb dL_withdraw_15 (by decide) ?_
      cases hf
      exact K _ _ _ _ _ _ (by decide) (by decide) dL_withdraw_16 hw
    have hf := xif_f c12 hf
    by_cases c13 : e1 = 2
    · subst c13
      have hf := xif_t rfl hf
      refine x_catch (pre := [(0, 10, 13, 20)]) (x := (0, 10, 17, 13)) (suf := [(0, 10, 21, 36)]) (ec := 2) hc hT rfl (by decide) (List.forall_mem_cons.mpr ⟨⟨by decide, "java/lang/IndexOutOfBoundsException", by decide, w_classLink_RL_20_java_lang_IndexOutOfBoundsException_, by decide⟩, List.forall_mem_nil _⟩) (by decide) (by decide) w_classLink_RL_13_java_lang_IllegalArgumentException_ q1 q2 q3 ?_
      refine lv_astore (lv' := [(4, .ref q), (0, .ref (xAd κ 234)), (1, .int x1), (2, .int x2), (3, .ref (xAd κ 254))]) hx hb dL_withdraw_17 hl (by decide) rfl (fun ls hl => ?_)
      refine lv_iconst (v := 2) hx hb dL_withdraw_19 (by decide) ?_
      cases hf
      exact K _ _ _ _ _ _ (by decide) (by decide) dL_withdraw_20 hw
    have hf := xif_f c13 hf
    by_cases c14 : e1 = 4
    · subst c14
      have hf := xif_t rfl hf
      refine x_catch (pre := [(0, 10, 13, 20), (0, 10, 17, 13)]) (x := (0, 10, 21, 36)) (suf := []) (ec := 4) hc hT rfl (by decide) (List.forall_mem_cons.mpr ⟨⟨by decide, "java/lang/IndexOutOfBoundsException", by decide, w_classLink_RL_20_java_lang_IndexOutOfBoundsException_, by decide⟩, List.forall_mem_cons.mpr ⟨⟨by decide, "java/lang/IllegalArgumentException", by decide, w_classLink_RL_13_java_lang_IllegalArgumentException_, by decide⟩, List.forall_mem_nil _⟩⟩) (by decide) (by decide) w_classLink_RL_36_java_lang_UnsupportedOperationException_ q1 q2 q3 ?_
      refine lv_astore (lv' := [(4, .ref q), (0, .ref (xAd κ 234)), (1, .int x1), (2, .int x2), (3, .ref (xAd κ 254))]) hx hb dL_withdraw_21 hl (by decide) rfl (fun ls hl => ?_)
      refine lv_iconst (v := 3) hx hb dL_withdraw_23 (by decide) ?_
      cases hf
      exact K _ _ _ _ _ _ (by decide) (by decide) dL_withdraw_24 hw
    have hf := xif_f c14 hf
    cases hf
  · have hf := xif_t c10 hf
    refine lv_i2l (v := v2.toInt64) hx hb dL_withdraw_8 rfl ?_
    obtain ⟨k11, hf⟩ := xk_of hf
    refine x_last (n := 1) (f := uo) (σ' := (upA uA_3 0 (uP, uC_4, uD, uJ_5, ur, ut, ud, ug), (uT0, uT1, uT2, uT3, uT4, uT5, uT6, uT7, uT8), (uG0, uG1, uG2), (uM0, uM1_6, uM2_7, uM3_8, uM4), wF, (vp_updL uo (0 : Int32).toNatClampNeg v2.toInt64), uv)) hc hw co_254 k11 so_O_0 dL_withdraw_9 (fun H locs hw => ?_)
    refine lv_goto (tgt := 25) hx hb dL_withdraw_10 (by decide) ?_
    refine lv_iconst (v := 0) hx hb dL_withdraw_25 (by decide) ?_
    cases hf
    exact K _ _ _ _ _ _ (by decide) (by decide) dL_withdraw_26 hw
def f_L_claimed (x1 : Int32) (x2 : Int32) (uC : sCla) (uM3 : Int32) (uo : xF64) : Option (Int32 × Int32 × xF64) :=
  xb3 (f_X7_claimed x1 x2 uC uM3) fun e1 v2 uM3_3 => (if e1 = 0 then (xk (xin 0 1) (some (0, uM3_3, (vp_updL uo (0 : Int32).toNatClampNeg v2.toInt64)))) else (if e1 = 1 then (some (1, uM3_3, uo)) else (if e1 = 2 then (some (2, uM3_3, uo)) else (none))))
set_option maxHeartbeats 4000000 in
set_option maxRecDepth 100000 in
theorem m_L_claimed {l : Launch} {κ : xKt} {wF : sRef}  {x1 : Int32} {x2 : Int32} {uA : Nat → sAcc} {uP : sPar} {uC : sCla} {uD : sDeb} {uJ : sJou} {ur : xF32} {ut : xF32} {ud : Int32} {ug : Int32} {uT0 : Int32} {uT1 : xF32} {uT2 : Int32} {uT3 : Int32} {uT4 : Int32} {uT5 : xF32} {uT6 : xF32} {uT7 : xF32} {uT8 : xF32} {uG0 : Int32} {uG1 : xF32} {uG2 : xF32} {uM0 : Int32} {uM1 : Int32} {uM2 : Int32} {uM3 : Int32} {uM4 : Int32} {uo : xF64} {uv : Nat → UInt64} {rr : Int32} {yM3 : Int32} {yo : xF64} (hf : f_L_claimed x1 x2 uC uM3 uo = some (rr, yM3, yo)) : xHi l κ yL_claimed cL_claimed 5 (some .int) [(0, 10, 13, 20), (0, 10, 17, 13)] (xR 3 1 6) [.ref (xAd κ 234), .int x1, .int x2, .ref (xAd κ 254)] (upA uA 0 (uP, uC, uD, uJ, ur, ut, ud, ug), (uT0, uT1, uT2, uT3, uT4, uT5, uT6, uT7, uT8), (uG0, uG1, uG2), (uM0, uM1, uM2, uM3, uM4), wF, uo, uv) (upA uA 0 (uP, uC, uD, uJ, ur, ut, ud, ug), (uT0, uT1, uT2, uT3, uT4, uT5, uT6, uT7, uT8), (uG0, uG1, uG2), (uM0, uM1, uM2, yM3, uM4), wF, yo, uv) rr := by
  unfold f_L_claimed at hf
  refine xHi_of pn_L (Nat.le_of_ble_eq_true rfl) ?_
  intro A p e s m args below meth c ls Q hlt hc hT hw hl K
  have hc : xC κ A p s m args meth c cL_claimed RL 5 (some .int) := hc
  have hx := hc.1.1
  have hb := hc.1.2.1
  have hl : lv_has ls 5 [(0, .ref (xAd κ 234)), (1, .int x1), (2, .int x2), (3, .ref (xAd κ 254))] := hl
  refine lv_aload_n hx hb dL_claimed_0 rfl (lv_at hl 3 rfl) ?_
  refine lv_iconst (v := 0) hx hb dL_claimed_1 (by decide) ?_
  refine lv_aload_n hx hb dL_claimed_2 rfl (lv_at hl 0 rfl) ?_
  refine lv_iload_n hx hb dL_claimed_3 rfl (lv_at hl 1 rfl) ?_
  refine lv_iload_n hx hb dL_claimed_4 rfl (lv_at hl 2 rfl) ?_
  obtain ⟨e1, v2, uM3_3, h4, hf⟩ := xb3_of hf
  refine x_tcalliV (As := [.int x1, .int x2]) (rest := [.int 0, .ref (xAd κ 254)]) (σ' := (upA uA 0 (uP, uC, uD, uJ, ur, ut, ud, ug), (uT0, uT1, uT2, uT3, uT4, uT5, uT6, uT7, uT8), (uG0, uG1, uG2), (uM0, uM1, uM2, uM3_3, uM4), wF, uo, uv)) hc hw hl.1 hlt (m_X7_claimed h4) kL_44 co_234 rfl rfl ⟨rfl, rfl⟩ ⟨Nat.le_of_ble_eq_true rfl, Nat.le_of_ble_eq_true rfl⟩ ⟨Nat.le_of_ble_eq_true rfl, Nat.le_of_ble_eq_true rfl⟩ (Nat.le_of_ble_eq_true rfl) dL_claimed_5 (fun c5 H locs q ce hw q1 q2 q3 => ?_) (fun c5 H locs hw => ?_)
  · have hf := xif_f c5 hf
    by_cases c7 : e1 = 1
    · subst c7
      have hf := xif_t rfl hf
      refine x_catch (pre := []) (x := (0, 10, 13, 20)) (suf := [(0, 10, 17, 13)]) (ec := 1) hc hT rfl (by decide) (List.forall_mem_nil _) (by decide) (by decide) w_classLink_RL_20_java_lang_IndexOutOfBoundsException_ q1 q2 q3 ?_
      refine lv_astore (lv' := [(4, .ref q), (0, .ref (xAd κ 234)), (1, .int x1), (2, .int x2), (3, .ref (xAd κ 254))]) hx hb dL_claimed_13 hl (by decide) rfl (fun ls hl => ?_)
      refine lv_iconst (v := 1) hx hb dL_claimed_15 (by decide) ?_
      cases hf
      exact K _ _ _ _ _ _ (by decide) (by decide) dL_claimed_16 hw
    have hf := xif_f c7 hf
    by_cases c8 : e1 = 2
    · subst c8
      have hf := xif_t rfl hf
      refine x_catch (pre := [(0, 10, 13, 20)]) (x := (0, 10, 17, 13)) (suf := []) (ec := 2) hc hT rfl (by decide) (List.forall_mem_cons.mpr ⟨⟨by decide, "java/lang/IndexOutOfBoundsException", by decide, w_classLink_RL_20_java_lang_IndexOutOfBoundsException_, by decide⟩, List.forall_mem_nil _⟩) (by decide) (by decide) w_classLink_RL_13_java_lang_IllegalArgumentException_ q1 q2 q3 ?_
      refine lv_astore (lv' := [(4, .ref q), (0, .ref (xAd κ 234)), (1, .int x1), (2, .int x2), (3, .ref (xAd κ 254))]) hx hb dL_claimed_17 hl (by decide) rfl (fun ls hl => ?_)
      refine lv_iconst (v := 2) hx hb dL_claimed_19 (by decide) ?_
      cases hf
      exact K _ _ _ _ _ _ (by decide) (by decide) dL_claimed_20 hw
    have hf := xif_f c8 hf
    cases hf
  · have hf := xif_t c5 hf
    refine lv_i2l (v := v2.toInt64) hx hb dL_claimed_8 rfl ?_
    obtain ⟨k6, hf⟩ := xk_of hf
    refine x_last (n := 1) (f := uo) (σ' := (upA uA 0 (uP, uC, uD, uJ, ur, ut, ud, ug), (uT0, uT1, uT2, uT3, uT4, uT5, uT6, uT7, uT8), (uG0, uG1, uG2), (uM0, uM1, uM2, uM3_3, uM4), wF, (vp_updL uo (0 : Int32).toNatClampNeg v2.toInt64), uv)) hc hw co_254 k6 so_O_0 dL_claimed_9 (fun H locs hw => ?_)
    refine lv_goto (tgt := 21) hx hb dL_claimed_10 (by decide) ?_
    refine lv_iconst (v := 0) hx hb dL_claimed_21 (by decide) ?_
    cases hf
    exact K _ _ _ _ _ _ (by decide) (by decide) dL_claimed_22 hw
def f_L_reason (uM3 : Int32) (uo : xF64) : Option (Int32 × xF64) :=
  xb2 (f_X7_reason uM3) fun e1 v2 => (if e1 = 0 then (xk (xin 0 1) (some (0, (vp_updL uo (0 : Int32).toNatClampNeg v2.toInt64)))) else (if e1 = 5 then (some (1, uo)) else (none)))
set_option maxHeartbeats 4000000 in
set_option maxRecDepth 100000 in
theorem m_L_reason {l : Launch} {κ : xKt} {wF : sRef}  {uA : Nat → sAcc} {uP : sPar} {uC : sCla} {uD : sDeb} {uJ : sJou} {ur : xF32} {ut : xF32} {ud : Int32} {ug : Int32} {uT0 : Int32} {uT1 : xF32} {uT2 : Int32} {uT3 : Int32} {uT4 : Int32} {uT5 : xF32} {uT6 : xF32} {uT7 : xF32} {uT8 : xF32} {uG0 : Int32} {uG1 : xF32} {uG2 : xF32} {uM0 : Int32} {uM1 : Int32} {uM2 : Int32} {uM3 : Int32} {uM4 : Int32} {uo : xF64} {uv : Nat → UInt64} {rr : Int32} {yo : xF64} (hf : f_L_reason uM3 uo = some (rr, yo)) : xHi l κ yL_reason cL_reason 3 (some .int) [(0, 8, 11, 51)] (xR 1 1 6) [.ref (xAd κ 234), .ref (xAd κ 254)] (upA uA 0 (uP, uC, uD, uJ, ur, ut, ud, ug), (uT0, uT1, uT2, uT3, uT4, uT5, uT6, uT7, uT8), (uG0, uG1, uG2), (uM0, uM1, uM2, uM3, uM4), wF, uo, uv) (upA uA 0 (uP, uC, uD, uJ, ur, ut, ud, ug), (uT0, uT1, uT2, uT3, uT4, uT5, uT6, uT7, uT8), (uG0, uG1, uG2), (uM0, uM1, uM2, uM3, uM4), wF, yo, uv) rr := by
  unfold f_L_reason at hf
  refine xHi_of pn_L (Nat.le_of_ble_eq_true rfl) ?_
  intro A p e s m args below meth c ls Q hlt hc hT hw hl K
  have hc : xC κ A p s m args meth c cL_reason RL 3 (some .int) := hc
  have hx := hc.1.1
  have hb := hc.1.2.1
  have hl : lv_has ls 3 [(0, .ref (xAd κ 234)), (1, .ref (xAd κ 254))] := hl
  refine lv_aload_n hx hb dL_reason_0 rfl (lv_at hl 1 rfl) ?_
  refine lv_iconst (v := 0) hx hb dL_reason_1 (by decide) ?_
  refine lv_aload_n hx hb dL_reason_2 rfl (lv_at hl 0 rfl) ?_
  obtain ⟨e1, v2, h3, hf⟩ := xb2_of hf
  refine x_tcalliV (As := []) (rest := [.int 0, .ref (xAd κ 254)]) (σ' := (upA uA 0 (uP, uC, uD, uJ, ur, ut, ud, ug), (uT0, uT1, uT2, uT3, uT4, uT5, uT6, uT7, uT8), (uG0, uG1, uG2), (uM0, uM1, uM2, uM3, uM4), wF, uo, uv)) hc hw hl.1 hlt (m_X7_reason h3) kL_47 co_234 rfl rfl ⟨rfl, rfl⟩ ⟨Nat.le_of_ble_eq_true rfl, Nat.le_of_ble_eq_true rfl⟩ ⟨Nat.le_of_ble_eq_true rfl, Nat.le_of_ble_eq_true rfl⟩ (Nat.le_of_ble_eq_true rfl) dL_reason_3 (fun c4 H locs q ce hw q1 q2 q3 => ?_) (fun c4 H locs hw => ?_)
  · have hf := xif_f c4 hf
    by_cases c6 : e1 = 5
    · subst c6
      have hf := xif_t rfl hf
      refine x_catch (pre := []) (x := (0, 8, 11, 51)) (suf := []) (ec := 5) hc hT rfl (by decide) (List.forall_mem_nil _) (by decide) (by decide) w_classLink_RL_51_java_util_NoSuchElementException_ q1 q2 q3 ?_
      refine lv_astore_n (lv' := [(2, .ref q), (0, .ref (xAd κ 234)), (1, .ref (xAd κ 254))]) hx hb dL_reason_11 rfl hl (by decide) rfl (fun ls hl => ?_)
      refine lv_iconst (v := 1) hx hb dL_reason_12 (by decide) ?_
      cases hf
      exact K _ _ _ _ _ _ (by decide) (by decide) dL_reason_13 hw
    have hf := xif_f c6 hf
    cases hf
  · have hf := xif_t c4 hf
    refine lv_i2l (v := v2.toInt64) hx hb dL_reason_6 rfl ?_
    obtain ⟨k5, hf⟩ := xk_of hf
    refine x_last (n := 1) (f := uo) (σ' := (upA uA 0 (uP, uC, uD, uJ, ur, ut, ud, ug), (uT0, uT1, uT2, uT3, uT4, uT5, uT6, uT7, uT8), (uG0, uG1, uG2), (uM0, uM1, uM2, uM3, uM4), wF, (vp_updL uo (0 : Int32).toNatClampNeg v2.toInt64), uv)) hc hw co_254 k5 so_O_0 dL_reason_7 (fun H locs hw => ?_)
    refine lv_goto (tgt := 14) hx hb dL_reason_8 (by decide) ?_
    refine lv_iconst (v := 0) hx hb dL_reason_14 (by decide) ?_
    cases hf
    exact K _ _ _ _ _ _ (by decide) (by decide) dL_reason_15 hw
def f_L_fees (fu : Nat) (x1 : Int32) (uC : sCla) (ut : xF32) (uo : xF64) : Option (Int32 × xF64) :=
  xb2 (f_X7_fees fu x1 uC ut) fun e1 v2 => (if e1 = 0 then (xk (xin 0 1) (some (0, (vp_updL uo (0 : Int32).toNatClampNeg v2)))) else (if e1 = 1 then (some (1, uo)) else (none)))
set_option maxHeartbeats 4000000 in
set_option maxRecDepth 100000 in
theorem m_L_fees {l : Launch} {κ : xKt} {wF : sRef} {fu : Nat} {x1 : Int32} {uA : Nat → sAcc} {uP : sPar} {uC : sCla} {uD : sDeb} {uJ : sJou} {ur : xF32} {ut : xF32} {ud : Int32} {ug : Int32} {uT0 : Int32} {uT1 : xF32} {uT2 : Int32} {uT3 : Int32} {uT4 : Int32} {uT5 : xF32} {uT6 : xF32} {uT7 : xF32} {uT8 : xF32} {uG0 : Int32} {uG1 : xF32} {uG2 : xF32} {uM0 : Int32} {uM1 : Int32} {uM2 : Int32} {uM3 : Int32} {uM4 : Int32} {uo : xF64} {uv : Nat → UInt64} {rr : Int32} {yo : xF64} (hf : f_L_fees fu x1 uC ut uo = some (rr, yo)) : xHi l κ yL_fees cL_fees 4 (some .int) [(0, 8, 11, 20)] (xR 4 1 6) [.ref (xAd κ 234), .int x1, .ref (xAd κ 254)] (upA uA 0 (uP, uC, uD, uJ, ur, ut, ud, ug), (uT0, uT1, uT2, uT3, uT4, uT5, uT6, uT7, uT8), (uG0, uG1, uG2), (uM0, uM1, uM2, uM3, uM4), wF, uo, uv) (upA uA 0 (uP, uC, uD, uJ, ur, ut, ud, ug), (uT0, uT1, uT2, uT3, uT4, uT5, uT6, uT7, uT8), (uG0, uG1, uG2), (uM0, uM1, uM2, uM3, uM4), wF, yo, uv) rr := by
  unfold f_L_fees at hf
  refine xHi_of pn_L (Nat.le_of_ble_eq_true rfl) ?_
  intro A p e s m args below meth c ls Q hlt hc hT hw hl K
  have hc : xC κ A p s m args meth c cL_fees RL 4 (some .int) := hc
  have hx := hc.1.1
  have hb := hc.1.2.1
  have hl : lv_has ls 4 [(0, .ref (xAd κ 234)), (1, .int x1), (2, .ref (xAd κ 254))] := hl
  refine lv_aload_n hx hb dL_fees_0 rfl (lv_at hl 2 rfl) ?_
  refine lv_iconst (v := 0) hx hb dL_fees_1 (by decide) ?_
  refine lv_aload_n hx hb dL_fees_2 rfl (lv_at hl 0 rfl) ?_
  refine lv_iload_n hx hb dL_fees_3 rfl (lv_at hl 1 rfl) ?_
  obtain ⟨e1, v2, h3, hf⟩ := xb2_of hf
  refine x_tcalllV (As := [.int x1]) (rest := [.int 0, .ref (xAd κ 254)]) (σ' := (upA uA 0 (uP, uC, uD, uJ, ur, ut, ud, ug), (uT0, uT1, uT2, uT3, uT4, uT5, uT6, uT7, uT8), (uG0, uG1, uG2), (uM0, uM1, uM2, uM3, uM4), wF, uo, uv)) hc hw hl.1 hlt (m_X7_fees h3) kL_53 co_234 rfl rfl ⟨rfl, rfl⟩ ⟨Nat.le_of_ble_eq_true rfl, Nat.le_of_ble_eq_true rfl⟩ ⟨Nat.le_of_ble_eq_true rfl, Nat.le_of_ble_eq_true rfl⟩ (Nat.le_of_ble_eq_true rfl) dL_fees_4 (fun c4 H locs q ce hw q1 q2 q3 => ?_) (fun c4 H locs hw => ?_)
  · have hf := xif_f c4 hf
    by_cases c6 : e1 = 1
    · subst c6
      have hf := xif_t rfl hf
      refine x_catch (pre := []) (x := (0, 8, 11, 20)) (suf := []) (ec := 1) hc hT rfl (by decide) (List.forall_mem_nil _) (by decide) (by decide) w_classLink_RL_20_java_lang_IndexOutOfBoundsException_ q1 q2 q3 ?_
      refine lv_astore_n (lv' := [(3, .ref q), (0, .ref (xAd κ 234)), (1, .int x1), (2, .ref (xAd κ 254))]) hx hb dL_fees_11 rfl hl (by decide) rfl (fun ls hl => ?_)
      refine lv_iconst (v := 1) hx hb dL_fees_12 (by decide) ?_
      cases hf
      exact K _ _ _ _ _ _ (by decide) (by decide) dL_fees_13 hw
    have hf := xif_f c6 hf
    cases hf
  · have hf := xif_t c4 hf
    obtain ⟨k5, hf⟩ := xk_of hf
    refine x_last (n := 1) (f := uo) (σ' := (upA uA 0 (uP, uC, uD, uJ, ur, ut, ud, ug), (uT0, uT1, uT2, uT3, uT4, uT5, uT6, uT7, uT8), (uG0, uG1, uG2), (uM0, uM1, uM2, uM3, uM4), wF, (vp_updL uo (0 : Int32).toNatClampNeg v2), uv)) hc hw co_254 k5 so_O_0 dL_fees_7 (fun H locs hw => ?_)
    refine lv_goto (tgt := 14) hx hb dL_fees_8 (by decide) ?_
    refine lv_iconst (v := 0) hx hb dL_fees_14 (by decide) ?_
    cases hf
    exact K _ _ _ _ _ _ (by decide) (by decide) dL_fees_15 hw
def f_L_wouldBe (fu : Nat) (x1 : Int32) (ut : xF32) (uo : xF64) : Option (Int32 × xF64) :=
  xb2 (f_X7_wouldBe fu x1 ut) fun e1 v2 => (if e1 = 0 then (xk (xin 0 1) (some (0, (vp_updL uo (0 : Int32).toNatClampNeg v2)))) else (if e1 = 2 then (some (1, uo)) else (none)))
set_option maxHeartbeats 4000000 in
set_option maxRecDepth 100000 in
theorem m_L_wouldBe {l : Launch} {κ : xKt} {wF : sRef} {fu : Nat} {x1 : Int32} {uA : Nat → sAcc} {uP : sPar} {uC : sCla} {uD : sDeb} {uJ : sJou} {ur : xF32} {ut : xF32} {ud : Int32} {ug : Int32} {uT0 : Int32} {uT1 : xF32} {uT2 : Int32} {uT3 : Int32} {uT4 : Int32} {uT5 : xF32} {uT6 : xF32} {uT7 : xF32} {uT8 : xF32} {uG0 : Int32} {uG1 : xF32} {uG2 : xF32} {uM0 : Int32} {uM1 : Int32} {uM2 : Int32} {uM3 : Int32} {uM4 : Int32} {uo : xF64} {uv : Nat → UInt64} {rr : Int32} {yo : xF64} (hf : f_L_wouldBe fu x1 ut uo = some (rr, yo)) : xHi l κ yL_wouldBe cL_wouldBe 4 (some .int) [(0, 8, 11, 13)] (xR 3 1 6) [.ref (xAd κ 234), .int x1, .ref (xAd κ 254)] (upA uA 0 (uP, uC, uD, uJ, ur, ut, ud, ug), (uT0, uT1, uT2, uT3, uT4, uT5, uT6, uT7, uT8), (uG0, uG1, uG2), (uM0, uM1, uM2, uM3, uM4), wF, uo, uv) (upA uA 0 (uP, uC, uD, uJ, ur, ut, ud, ug), (uT0, uT1, uT2, uT3, uT4, uT5, uT6, uT7, uT8), (uG0, uG1, uG2), (uM0, uM1, uM2, uM3, uM4), wF, yo, uv) rr := by
  unfold f_L_wouldBe at hf
  refine xHi_of pn_L (Nat.le_of_ble_eq_true rfl) ?_
  intro A p e s m args below meth c ls Q hlt hc hT hw hl K
  have hc : xC κ A p s m args meth c cL_wouldBe RL 4 (some .int) := hc
  have hx := hc.1.1
  have hb := hc.1.2.1
  have hl : lv_has ls 4 [(0, .ref (xAd κ 234)), (1, .int x1), (2, .ref (xAd κ 254))] := hl
  refine lv_aload_n hx hb dL_wouldBe_0 rfl (lv_at hl 2 rfl) ?_
  refine lv_iconst (v := 0) hx hb dL_wouldBe_1 (by decide) ?_
  refine lv_aload_n hx hb dL_wouldBe_2 rfl (lv_at hl 0 rfl) ?_
  refine lv_iload_n hx hb dL_wouldBe_3 rfl (lv_at hl 1 rfl) ?_
  obtain ⟨e1, v2, h3, hf⟩ := xb2_of hf
  refine x_tcalllV (As := [.int x1]) (rest := [.int 0, .ref (xAd κ 254)]) (σ' := (upA uA 0 (uP, uC, uD, uJ, ur, ut, ud, ug), (uT0, uT1, uT2, uT3, uT4, uT5, uT6, uT7, uT8), (uG0, uG1, uG2), (uM0, uM1, uM2, uM3, uM4), wF, uo, uv)) hc hw hl.1 hlt (m_X7_wouldBe h3) kL_57 co_234 rfl rfl ⟨rfl, rfl⟩ ⟨Nat.le_of_ble_eq_true rfl, Nat.le_of_ble_eq_true rfl⟩ ⟨Nat.le_of_ble_eq_true rfl, Nat.le_of_ble_eq_true rfl⟩ (Nat.le_of_ble_eq_true rfl) dL_wouldBe_4 (fun c4 H locs q ce hw q1 q2 q3 => ?_) (fun c4 H locs hw => ?_)
  · have hf := xif_f c4 hf
    by_cases c6 : e1 = 2
    · subst c6
      have hf := xif_t rfl hf
      refine x_catch (pre := []) (x := (0, 8, 11, 13)) (suf := []) (ec := 2) hc hT rfl (by decide) (List.forall_mem_nil _) (by decide) (by decide) w_classLink_RL_13_java_lang_IllegalArgumentException_ q1 q2 q3 ?_
      refine lv_astore_n (lv' := [(3, .ref q), (0, .ref (xAd κ 234)), (1, .int x1), (2, .ref (xAd κ 254))]) hx hb dL_wouldBe_11 rfl hl (by decide) rfl (fun ls hl => ?_)
      refine lv_iconst (v := 1) hx hb dL_wouldBe_12 (by decide) ?_
      cases hf
      exact K _ _ _ _ _ _ (by decide) (by decide) dL_wouldBe_13 hw
    have hf := xif_f c6 hf
    cases hf
  · have hf := xif_t c4 hf
    obtain ⟨k5, hf⟩ := xk_of hf
    refine x_last (n := 1) (f := uo) (σ' := (upA uA 0 (uP, uC, uD, uJ, ur, ut, ud, ug), (uT0, uT1, uT2, uT3, uT4, uT5, uT6, uT7, uT8), (uG0, uG1, uG2), (uM0, uM1, uM2, uM3, uM4), wF, (vp_updL uo (0 : Int32).toNatClampNeg v2), uv)) hc hw co_254 k5 so_O_0 dL_wouldBe_7 (fun H locs hw => ?_)
    refine lv_goto (tgt := 14) hx hb dL_wouldBe_8 (by decide) ?_
    refine lv_iconst (v := 0) hx hb dL_wouldBe_14 (by decide) ?_
    cases hf
    exact K _ _ _ _ _ _ (by decide) (by decide) dL_wouldBe_15 hw
def f_L_side (fu : Nat) (x1 : Int32) (x2 : Int32) (uP : sPar) (uC : sCla) (ut : xF32) (uM3 : Int32) (uo : xF64) : Option (Int32 × Int32 × xF64) :=
  xb3 (f_X7_side fu x1 x2 uP uC ut uM3) fun e1 v2 uM3_3 => (if e1 = 0 then (xk (xin 0 1) (some (0, uM3_3, (vp_updL uo (0 : Int32).toNatClampNeg v2)))) else (if e1 = 1 then (some (1, uM3_3, uo)) else (if e1 = 2 then (some (2, uM3_3, uo)) else (none))))
set_option maxHeartbeats 4000000 in
set_option maxRecDepth 100000 in
theorem m_L_side {l : Launch} {κ : xKt} {wF : sRef} {fu : Nat} {x1 : Int32} {x2 : Int32} {uA : Nat → sAcc} {uP : sPar} {uC : sCla} {uD : sDeb} {uJ : sJou} {ur : xF32} {ut : xF32} {ud : Int32} {ug : Int32} {uT0 : Int32} {uT1 : xF32} {uT2 : Int32} {uT3 : Int32} {uT4 : Int32} {uT5 : xF32} {uT6 : xF32} {uT7 : xF32} {uT8 : xF32} {uG0 : Int32} {uG1 : xF32} {uG2 : xF32} {uM0 : Int32} {uM1 : Int32} {uM2 : Int32} {uM3 : Int32} {uM4 : Int32} {uo : xF64} {uv : Nat → UInt64} {rr : Int32} {yM3 : Int32} {yo : xF64} (hf : f_L_side fu x1 x2 uP uC ut uM3 uo = some (rr, yM3, yo)) : xHi l κ yL_side cL_side 5 (some .int) [(0, 9, 12, 20), (0, 9, 16, 13)] (xR 6 1 6) [.ref (xAd κ 234), .int x1, .int x2, .ref (xAd κ 254)] (upA uA 0 (uP, uC, uD, uJ, ur, ut, ud, ug), (uT0, uT1, uT2, uT3, uT4, uT5, uT6, uT7, uT8), (uG0, uG1, uG2), (uM0, uM1, uM2, uM3, uM4), wF, uo, uv) (upA uA 0 (uP, uC, uD, uJ, ur, ut, ud, ug), (uT0, uT1, uT2, uT3, uT4, uT5, uT6, uT7, uT8), (uG0, uG1, uG2), (uM0, uM1, uM2, yM3, uM4), wF, yo, uv) rr := by
  unfold f_L_side at hf
  refine xHi_of pn_L (Nat.le_of_ble_eq_true rfl) ?_
  intro A p e s m args below meth c ls Q hlt hc hT hw hl K
  have hc : xC κ A p s m args meth c cL_side RL 5 (some .int) := hc
  have hx := hc.1.1
  have hb := hc.1.2.1
  have hl : lv_has ls 5 [(0, .ref (xAd κ 234)), (1, .int x1), (2, .int x2), (3, .ref (xAd κ 254))] := hl
  refine lv_aload_n hx hb dL_side_0 rfl (lv_at hl 3 rfl) ?_
  refine lv_iconst (v := 0) hx hb dL_side_1 (by decide) ?_
  refine lv_aload_n hx hb dL_side_2 rfl (lv_at hl 0 rfl) ?_
  refine lv_iload_n hx hb dL_side_3 rfl (lv_at hl 1 rfl) ?_
  refine lv_iload_n hx hb dL_side_4 rfl (lv_at hl 2 rfl) ?_
  obtain ⟨e1, v2, uM3_3, h4, hf⟩ := xb3_of hf
  refine x_tcalllV (As := [.int x1, .int x2]) (rest := [.int 0, .ref (xAd κ 254)]) (σ' := (upA uA 0 (uP, uC, uD, uJ, ur, ut, ud, ug), (uT0, uT1, uT2, uT3, uT4, uT5, uT6, uT7, uT8), (uG0, uG1, uG2), (uM0, uM1, uM2, uM3_3, uM4), wF, uo, uv)) hc hw hl.1 hlt (m_X7_side h4) kL_60 co_234 rfl rfl ⟨rfl, rfl⟩ ⟨Nat.le_of_ble_eq_true rfl, Nat.le_of_ble_eq_true rfl⟩ ⟨Nat.le_of_ble_eq_true rfl, Nat.le_of_ble_eq_true rfl⟩ (Nat.le_of_ble_eq_true rfl) dL_side_5 (fun c5 H locs q ce hw q1 q2 q3 => ?_) (fun c5 H locs hw => ?_)
  · have hf := xif_f c5 hf
    by_cases c7 : e1 = 1
    · subst c7
      have hf := xif_t rfl hf
      refine x_catch (pre := []) (x := (0, 9, 12, 20)) (suf := [(0, 9, 16, 13)]) (ec := 1) hc hT rfl (by decide) (List.forall_mem_nil _) (by decide) (by decide) w_classLink_RL_20_java_lang_IndexOutOfBoundsException_ q1 q2 q3 ?_
      refine lv_astore (lv' := [(4, .ref q), (0, .ref (xAd κ 234)), (1, .int x1), (2, .int x2), (3, .ref (xAd κ 254))]) hx hb dL_side_12 hl (by decide) rfl (fun ls hl => ?_)
      refine lv_iconst (v := 1) hx hb dL_side_14 (by decide) ?_
      cases hf
      exact K _ _ _ _ _ _ (by decide) (by decide) dL_side_15 hw
    have hf := xif_f c7 hf
    by_cases c8 : e1 = 2
    · subst c8
      have hf := xif_t rfl hf
      refine x_catch (pre := [(0, 9, 12, 20)]) (x := (0, 9, 16, 13)) (suf := []) (ec := 2) hc hT rfl (by decide) (List.forall_mem_cons.mpr ⟨⟨by decide, "java/lang/IndexOutOfBoundsException", by decide, w_classLink_RL_20_java_lang_IndexOutOfBoundsException_, by decide⟩, List.forall_mem_nil _⟩) (by decide) (by decide) w_classLink_RL_13_java_lang_IllegalArgumentException_ q1 q2 q3 ?_
      refine lv_astore (lv' := [(4, .ref q), (0, .ref (xAd κ 234)), (1, .int x1), (2, .int x2), (3, .ref (xAd κ 254))]) hx hb dL_side_16 hl (by decide) rfl (fun ls hl => ?_)
      refine lv_iconst (v := 2) hx hb dL_side_18 (by decide) ?_
      cases hf
      exact K _ _ _ _ _ _ (by decide) (by decide) dL_side_19 hw
    have hf := xif_f c8 hf
    cases hf
  · have hf := xif_t c5 hf
    obtain ⟨k6, hf⟩ := xk_of hf
    refine x_last (n := 1) (f := uo) (σ' := (upA uA 0 (uP, uC, uD, uJ, ur, ut, ud, ug), (uT0, uT1, uT2, uT3, uT4, uT5, uT6, uT7, uT8), (uG0, uG1, uG2), (uM0, uM1, uM2, uM3_3, uM4), wF, (vp_updL uo (0 : Int32).toNatClampNeg v2), uv)) hc hw co_254 k6 so_O_0 dL_side_8 (fun H locs hw => ?_)
    refine lv_goto (tgt := 20) hx hb dL_side_9 (by decide) ?_
    refine lv_iconst (v := 0) hx hb dL_side_20 (by decide) ?_
    cases hf
    exact K _ _ _ _ _ _ (by decide) (by decide) dL_side_21 hw
def f_L_call (fu : Nat) (x1 : Int32) (uA : Nat → sAcc) (uP : sPar) (uC : sCla) (uD : sDeb) (uJ : sJou) (ur : xF32) (ut : xF32) (ud : Int32) (ug : Int32) (uM1 : Int32) (uM2 : Int32) (uo : xF64) : Option (Int32 × (Nat → sAcc) × sPar × sJou × Int32 × Int32 × xF64) :=
  xb7 (f_X7_call fu x1 uA uP uC uD uJ ur ut ud ug uM1 uM2) fun e1 v2 uA_3 uP_4 uJ_5 uM1_6 uM2_7 => (if e1 = 0 then (xk (xin 0 1) (some (0, uA_3, uP_4, uJ_5, uM1_6, uM2_7, (vp_updL uo (0 : Int32).toNatClampNeg v2)))) else (if e1 = 2 then (some (1, uA_3, uP_4, uJ_5, uM1_6, uM2_7, uo)) else (none)))
set_option maxHeartbeats 4000000 in
set_option maxRecDepth 100000 in
theorem m_L_call {l : Launch} {κ : xKt} {wF : sRef} {fu : Nat} {x1 : Int32} {uA : Nat → sAcc} {uP : sPar} {uC : sCla} {uD : sDeb} {uJ : sJou} {ur : xF32} {ut : xF32} {ud : Int32} {ug : Int32} {uT0 : Int32} {uT1 : xF32} {uT2 : Int32} {uT3 : Int32} {uT4 : Int32} {uT5 : xF32} {uT6 : xF32} {uT7 : xF32} {uT8 : xF32} {uG0 : Int32} {uG1 : xF32} {uG2 : xF32} {uM0 : Int32} {uM1 : Int32} {uM2 : Int32} {uM3 : Int32} {uM4 : Int32} {uo : xF64} {uv : Nat → UInt64} {rr : Int32} {yA : Nat → sAcc} {yP : sPar} {yJ : sJou} {yM1 : Int32} {yM2 : Int32} {yo : xF64} (hf : f_L_call fu x1 uA uP uC uD uJ ur ut ud ug uM1 uM2 uo = some (rr, yA, yP, yJ, yM1, yM2, yo)) : xHi l κ yL_call cL_call 4 (some .int) [(0, 8, 11, 13)] (xR 4 1 6) [.ref (xAd κ 234), .int x1, .ref (xAd κ 254)] (upA uA 0 (uP, uC, uD, uJ, ur, ut, ud, ug), (uT0, uT1, uT2, uT3, uT4, uT5, uT6, uT7, uT8), (uG0, uG1, uG2), (uM0, uM1, uM2, uM3, uM4), wF, uo, uv) (upA yA 0 (yP, uC, uD, yJ, ur, ut, ud, ug), (uT0, uT1, uT2, uT3, uT4, uT5, uT6, uT7, uT8), (uG0, uG1, uG2), (uM0, yM1, yM2, uM3, uM4), wF, yo, uv) rr := by
  unfold f_L_call at hf
  refine xHi_of pn_L (Nat.le_of_ble_eq_true rfl) ?_
  intro A p e s m args below meth c ls Q hlt hc hT hw hl K
  have hc : xC κ A p s m args meth c cL_call RL 4 (some .int) := hc
  have hx := hc.1.1
  have hb := hc.1.2.1
  have hl : lv_has ls 4 [(0, .ref (xAd κ 234)), (1, .int x1), (2, .ref (xAd κ 254))] := hl
  refine lv_aload_n hx hb dL_call_0 rfl (lv_at hl 2 rfl) ?_
  refine lv_iconst (v := 0) hx hb dL_call_1 (by decide) ?_
  refine lv_aload_n hx hb dL_call_2 rfl (lv_at hl 0 rfl) ?_
  refine lv_iload_n hx hb dL_call_3 rfl (lv_at hl 1 rfl) ?_
  obtain ⟨e1, v2, uA_3, uP_4, uJ_5, uM1_6, uM2_7, h8, hf⟩ := xb7_of hf
  refine x_tcalllV (As := [.int x1]) (rest := [.int 0, .ref (xAd κ 254)]) (σ' := (upA uA_3 0 (uP_4, uC, uD, uJ_5, ur, ut, ud, ug), (uT0, uT1, uT2, uT3, uT4, uT5, uT6, uT7, uT8), (uG0, uG1, uG2), (uM0, uM1_6, uM2_7, uM3, uM4), wF, uo, uv)) hc hw hl.1 hlt (m_X7_call h8) kL_63 co_234 rfl rfl ⟨rfl, rfl⟩ ⟨Nat.le_of_ble_eq_true rfl, Nat.le_of_ble_eq_true rfl⟩ ⟨Nat.le_of_ble_eq_true rfl, Nat.le_of_ble_eq_true rfl⟩ (Nat.le_of_ble_eq_true rfl) dL_call_4 (fun c9 H locs q ce hw q1 q2 q3 => ?_) (fun c9 H locs hw => ?_)
  · have hf := xif_f c9 hf
    by_cases c11 : e1 = 2
    · subst c11
      have hf := xif_t rfl hf
      refine x_catch (pre := []) (x := (0, 8, 11, 13)) (suf := []) (ec := 2) hc hT rfl (by decide) (List.forall_mem_nil _) (by decide) (by decide) w_classLink_RL_13_java_lang_IllegalArgumentException_ q1 q2 q3 ?_
      refine lv_astore_n (lv' := [(3, .ref q), (0, .ref (xAd κ 234)), (1, .int x1), (2, .ref (xAd κ 254))]) hx hb dL_call_11 rfl hl (by decide) rfl (fun ls hl => ?_)
      refine lv_iconst (v := 1) hx hb dL_call_12 (by decide) ?_
      cases hf
      exact K _ _ _ _ _ _ (by decide) (by decide) dL_call_13 hw
    have hf := xif_f c11 hf
    cases hf
  · have hf := xif_t c9 hf
    obtain ⟨k10, hf⟩ := xk_of hf
    refine x_last (n := 1) (f := uo) (σ' := (upA uA_3 0 (uP_4, uC, uD, uJ_5, ur, ut, ud, ug), (uT0, uT1, uT2, uT3, uT4, uT5, uT6, uT7, uT8), (uG0, uG1, uG2), (uM0, uM1_6, uM2_7, uM3, uM4), wF, (vp_updL uo (0 : Int32).toNatClampNeg v2), uv)) hc hw co_254 k10 so_O_0 dL_call_7 (fun H locs hw => ?_)
    refine lv_goto (tgt := 14) hx hb dL_call_8 (by decide) ?_
    refine lv_iconst (v := 0) hx hb dL_call_14 (by decide) ?_
    cases hf
    exact K _ _ _ _ _ _ (by decide) (by decide) dL_call_15 hw
def f_L_pay (fu : Nat) (x1 : Int32) (x2 : Int32) (uA : Nat → sAcc) (uP : sPar) (uC : sCla) (uD : sDeb) (uJ : sJou) (ur : xF32) (ut : xF32) (ud : Int32) (ug : Int32) (uM1 : Int32) (uM2 : Int32) (uM3 : Int32) (uo : xF64) : Option (Int32 × (Nat → sAcc) × sPar × sJou × Int32 × Int32 × Int32 × xF64) :=
  xb8 (f_X7_pay fu x1 x2 uA uP uC uD uJ ur ut ud ug uM1 uM2 uM3) fun e1 v2 uA_3 uP_4 uJ_5 uM1_6 uM2_7 uM3_8 => (if e1 = 0 then (xk (xin 0 1) (some (0, uA_3, uP_4, uJ_5, uM1_6, uM2_7, uM3_8, (vp_updL uo (0 : Int32).toNatClampNeg v2)))) else (if e1 = 1 then (some (1, uA_3, uP_4, uJ_5, uM1_6, uM2_7, uM3_8, uo)) else (if e1 = 2 then (some (2, uA_3, uP_4, uJ_5, uM1_6, uM2_7, uM3_8, uo)) else (none))))
set_option maxHeartbeats 4000000 in
set_option maxRecDepth 100000 in
theorem m_L_pay {l : Launch} {κ : xKt} {wF : sRef} {fu : Nat} {x1 : Int32} {x2 : Int32} {uA : Nat → sAcc} {uP : sPar} {uC : sCla} {uD : sDeb} {uJ : sJou} {ur : xF32} {ut : xF32} {ud : Int32} {ug : Int32} {uT0 : Int32} {uT1 : xF32} {uT2 : Int32} {uT3 : Int32} {uT4 : Int32} {uT5 : xF32} {uT6 : xF32} {uT7 : xF32} {uT8 : xF32} {uG0 : Int32} {uG1 : xF32} {uG2 : xF32} {uM0 : Int32} {uM1 : Int32} {uM2 : Int32} {uM3 : Int32} {uM4 : Int32} {uo : xF64} {uv : Nat → UInt64} {rr : Int32} {yA : Nat → sAcc} {yP : sPar} {yJ : sJou} {yM1 : Int32} {yM2 : Int32} {yM3 : Int32} {yo : xF64} (hf : f_L_pay fu x1 x2 uA uP uC uD uJ ur ut ud ug uM1 uM2 uM3 uo = some (rr, yA, yP, yJ, yM1, yM2, yM3, yo)) : xHi l κ yL_pay cL_pay 5 (some .int) [(0, 9, 12, 20), (0, 9, 16, 13)] (xR 4 1 6) [.ref (xAd κ 234), .int x1, .int x2, .ref (xAd κ 254)] (upA uA 0 (uP, uC, uD, uJ, ur, ut, ud, ug), (uT0, uT1, uT2, uT3, uT4, uT5, uT6, uT7, uT8), (uG0, uG1, uG2), (uM0, uM1, uM2, uM3, uM4), wF, uo, uv) (upA yA 0 (yP, uC, uD, yJ, ur, ut, ud, ug), (uT0, uT1, uT2, uT3, uT4, uT5, uT6, uT7, uT8), (uG0, uG1, uG2), (uM0, yM1, yM2, yM3, uM4), wF, yo, uv) rr := by
  unfold f_L_pay at hf
  refine xHi_of pn_L (Nat.le_of_ble_eq_true rfl) ?_
  intro A p e s m args below meth c ls Q hlt hc hT hw hl K
  have hc : xC κ A p s m args meth c cL_pay RL 5 (some .int) := hc
  have hx := hc.1.1
  have hb := hc.1.2.1
  have hl : lv_has ls 5 [(0, .ref (xAd κ 234)), (1, .int x1), (2, .int x2), (3, .ref (xAd κ 254))] := hl
  refine lv_aload_n hx hb dL_pay_0 rfl (lv_at hl 3 rfl) ?_
  refine lv_iconst (v := 0) hx hb dL_pay_1 (by decide) ?_
  refine lv_aload_n hx hb dL_pay_2 rfl (lv_at hl 0 rfl) ?_
  refine lv_iload_n hx hb dL_pay_3 rfl (lv_at hl 1 rfl) ?_
  refine lv_iload_n hx hb dL_pay_4 rfl (lv_at hl 2 rfl) ?_
  obtain ⟨e1, v2, uA_3, uP_4, uJ_5, uM1_6, uM2_7, uM3_8, h9, hf⟩ := xb8_of hf
  refine x_tcalllV (As := [.int x1, .int x2]) (rest := [.int 0, .ref (xAd κ 254)]) (σ' := (upA uA_3 0 (uP_4, uC, uD, uJ_5, ur, ut, ud, ug), (uT0, uT1, uT2, uT3, uT4, uT5, uT6, uT7, uT8), (uG0, uG1, uG2), (uM0, uM1_6, uM2_7, uM3_8, uM4), wF, uo, uv)) hc hw hl.1 hlt (m_X7_pay h9) kL_66 co_234 rfl rfl ⟨rfl, rfl⟩ ⟨Nat.le_of_ble_eq_true rfl, Nat.le_of_ble_eq_true rfl⟩ ⟨Nat.le_of_ble_eq_true rfl, Nat.le_of_ble_eq_true rfl⟩ (Nat.le_of_ble_eq_true rfl) dL_pay_5 (fun c10 H locs q ce hw q1 q2 q3 => ?_) (fun c10 H locs hw => ?_)
  · have hf := xif_f c10 hf
    by_cases c12 : e1 = 1
    · subst c12
      have hf := xif_t rfl hf
      refine x_catch (pre := []) (x := (0, 9, 12, 20)) (suf := [(0, 9, 16, 13)]) (ec := 1) hc hT rfl (by decide) (List.forall_mem_nil _) (by decide) (by decide) w_classLink_RL_20_java_lang_IndexOutOfBoundsException_ q1 q2 q3 ?_
      refine lv_astore (lv' := [(4, .ref q), (0, .ref (xAd κ 234)), (1, .int x1), (2, .int x2), (3, .ref (xAd κ 254))]) hx hb dL_pay_12 hl (by decide) rfl (fun ls hl => ?_)
      refine lv_iconst (v := 1) hx hb dL_pay_14 (by decide) ?_
      cases hf
      exact K _ _ _ _ _ _ (by decide) (by decide) dL_pay_15 hw
    have hf := xif_f c12 hf
    by_cases c13 : e1 = 2
    · subst c13
      have hf := xif_t rfl hf
      refine x_catch (pre := [(0, 9, 12, 20)]) (x := (0, 9, 16, 13)) (suf := []) (ec := 2) hc hT rfl (by decide) (List.forall_mem_cons.mpr ⟨⟨by decide, "java/lang/IndexOutOfBoundsException", by decide, w_classLink_RL_20_java_lang_IndexOutOfBoundsException_, by decide⟩, List.forall_mem_nil _⟩) (by decide) (by decide) w_classLink_RL_13_java_lang_IllegalArgumentException_ q1 q2 q3 ?_
      refine lv_astore (lv' := [(4, .ref q), (0, .ref (xAd κ 234)), (1, .int x1), (2, .int x2), (3, .ref (xAd κ 254))]) hx hb dL_pay_16 hl (by decide) rfl (fun ls hl => ?_)
      refine lv_iconst (v := 2) hx hb dL_pay_18 (by decide) ?_
      cases hf
      exact K _ _ _ _ _ _ (by decide) (by decide) dL_pay_19 hw
    have hf := xif_f c13 hf
    cases hf
  · have hf := xif_t c10 hf
    obtain ⟨k11, hf⟩ := xk_of hf
    refine x_last (n := 1) (f := uo) (σ' := (upA uA_3 0 (uP_4, uC, uD, uJ_5, ur, ut, ud, ug), (uT0, uT1, uT2, uT3, uT4, uT5, uT6, uT7, uT8), (uG0, uG1, uG2), (uM0, uM1_6, uM2_7, uM3_8, uM4), wF, (vp_updL uo (0 : Int32).toNatClampNeg v2), uv)) hc hw co_254 k11 so_O_0 dL_pay_8 (fun H locs hw => ?_)
    refine lv_goto (tgt := 20) hx hb dL_pay_9 (by decide) ?_
    refine lv_iconst (v := 0) hx hb dL_pay_20 (by decide) ?_
    cases hf
    exact K _ _ _ _ _ _ (by decide) (by decide) dL_pay_21 hw
def f_L_payFor (fu : Nat) (x1 : Int32) (x2 : Int32) (uA : Nat → sAcc) (uP : sPar) (uC : sCla) (uD : sDeb) (uJ : sJou) (ur : xF32) (ut : xF32) (ud : Int32) (ug : Int32) (uM1 : Int32) (uM2 : Int32) (uM3 : Int32) (uo : xF64) : Option (Int32 × (Nat → sAcc) × sPar × sDeb × sJou × Int32 × Int32 × Int32 × xF64) :=
  xb9 (f_X7_payFor fu x1 x2 uA uP uC uD uJ ur ut ud ug uM1 uM2 uM3) fun e1 v2 uA_3 uP_4 uD_5 uJ_6 uM1_7 uM2_8 uM3_9 => (if e1 = 0 then (xk (xin 0 1) (some (0, uA_3, uP_4, uD_5, uJ_6, uM1_7, uM2_8, uM3_9, (vp_updL uo (0 : Int32).toNatClampNeg v2)))) else (if e1 = 1 then (some (1, uA_3, uP_4, uD_5, uJ_6, uM1_7, uM2_8, uM3_9, uo)) else (if e1 = 2 then (some (2, uA_3, uP_4, uD_5, uJ_6, uM1_7, uM2_8, uM3_9, uo)) else (if e1 = 3 then (some (3, uA_3, uP_4, uD_5, uJ_6, uM1_7, uM2_8, uM3_9, uo)) else (none)))))
set_option maxHeartbeats 4000000 in
set_option maxRecDepth 100000 in
theorem m_L_payFor {l : Launch} {κ : xKt} {wF : sRef} {fu : Nat} {x1 : Int32} {x2 : Int32} {uA : Nat → sAcc} {uP : sPar} {uC : sCla} {uD : sDeb} {uJ : sJou} {ur : xF32} {ut : xF32} {ud : Int32} {ug : Int32} {uT0 : Int32} {uT1 : xF32} {uT2 : Int32} {uT3 : Int32} {uT4 : Int32} {uT5 : xF32} {uT6 : xF32} {uT7 : xF32} {uT8 : xF32} {uG0 : Int32} {uG1 : xF32} {uG2 : xF32} {uM0 : Int32} {uM1 : Int32} {uM2 : Int32} {uM3 : Int32} {uM4 : Int32} {uo : xF64} {uv : Nat → UInt64} {rr : Int32} {yA : Nat → sAcc} {yP : sPar} {yD : sDeb} {yJ : sJou} {yM1 : Int32} {yM2 : Int32} {yM3 : Int32} {yo : xF64} (hf : f_L_payFor fu x1 x2 uA uP uC uD uJ ur ut ud ug uM1 uM2 uM3 uo = some (rr, yA, yP, yD, yJ, yM1, yM2, yM3, yo)) : xHi l κ yL_payFor cL_payFor 5 (some .int) [(0, 9, 12, 20), (0, 9, 16, 13), (0, 9, 20, 15)] (xR 5 1 6) [.ref (xAd κ 234), .int x1, .int x2, .ref (xAd κ 254)] (upA uA 0 (uP, uC, uD, uJ, ur, ut, ud, ug), (uT0, uT1, uT2, uT3, uT4, uT5, uT6, uT7, uT8), (uG0, uG1, uG2), (uM0, uM1, uM2, uM3, uM4), wF, uo, uv) (upA yA 0 (yP, uC, yD, yJ, ur, ut, ud, ug), (uT0, uT1, uT2, uT3, uT4, uT5, uT6, uT7, uT8), (uG0, uG1, uG2), (uM0, yM1, yM2, yM3, uM4), wF, yo, uv) rr := by
  unfold f_L_payFor at hf
  refine xHi_of pn_L (Nat.le_of_ble_eq_true rfl) ?_
  intro A p e s m args below meth c ls Q hlt hc hT hw hl K
  have hc : xC κ A p s m args meth c cL_payFor RL 5 (some .int) := hc
  have hx := hc.1.1
  have hb := hc.1.2.1
  have hl : lv_has ls 5 [(0, .ref (xAd κ 234)), (1, .int x1), (2, .int x2), (3, .ref (xAd κ 254))] := hl
  refine lv_aload_n hx hb dL_payFor_0 rfl (lv_at hl 3 rfl) ?_
  refine lv_iconst (v := 0) hx hb dL_payFor_1 (by decide) ?_
  refine lv_aload_n hx hb dL_payFor_2 rfl (lv_at hl 0 rfl) ?_
  refine lv_iload_n hx hb dL_payFor_3 rfl (lv_at hl 1 rfl) ?_
  refine lv_iload_n hx hb dL_payFor_4 rfl (lv_at hl 2 rfl) ?_
  obtain ⟨e1, v2, uA_3, uP_4, uD_5, uJ_6, uM1_7, uM2_8, uM3_9, h10, hf⟩ := xb9_of hf
  refine x_tcalllV (As := [.int x1, .int x2]) (rest := [.int 0, .ref (xAd κ 254)]) (σ' := (upA uA_3 0 (uP_4, uC, uD_5, uJ_6, ur, ut, ud, ug), (uT0, uT1, uT2, uT3, uT4, uT5, uT6, uT7, uT8), (uG0, uG1, uG2), (uM0, uM1_7, uM2_8, uM3_9, uM4), wF, uo, uv)) hc hw hl.1 hlt (m_X7_payFor h10) kL_69 co_234 rfl rfl ⟨rfl, rfl⟩ ⟨Nat.le_of_ble_eq_true rfl, Nat.le_of_ble_eq_true rfl⟩ ⟨Nat.le_of_ble_eq_true rfl, Nat.le_of_ble_eq_true rfl⟩ (Nat.le_of_ble_eq_true rfl) dL_payFor_5 (fun c11 H locs q ce hw q1 q2 q3 => ?_) (fun c11 H locs hw => ?_)
  · have hf := xif_f c11 hf
    by_cases c13 : e1 = 1
    · subst c13
      have hf := xif_t rfl hf
      refine x_catch (pre := []) (x := (0, 9, 12, 20)) (suf := [(0, 9, 16, 13), (0, 9, 20, 15)]) (ec := 1) hc hT rfl (by decide) (List.forall_mem_nil _) (by decide) (by decide) w_classLink_RL_20_java_lang_IndexOutOfBoundsException_ q1 q2 q3 ?_
      refine lv_astore (lv' := [(4, .ref q), (0, .ref (xAd κ 234)), (1, .int x1), (2, .int x2), (3, .ref (xAd κ 254))]) hx hb dL_payFor_12 hl (by decide) rfl (fun ls hl => ?_)
      refine lv_iconst (v := 1) hx hb dL_payFor_14 (by decide) ?_
      cases hf
      exact K _ _ _ _ _ _ (by decide) (by decide) dL_payFor_15 hw
    have hf := xif_f c13 hf
    by_cases c14 : e1 = 2
    · subst c14
      have hf := xif_t rfl hf
      refine x_catch (pre := [(0, 9, 12, 20)]) (x := (0, 9, 16, 13)) (suf := [(0, 9, 20, 15)]) (ec := 2) hc hT rfl (by decide) (List.forall_mem_cons.mpr ⟨⟨by decide, "java/lang/IndexOutOfBoundsException", by decide, w_classLink_RL_20_java_lang_IndexOutOfBoundsException_, by decide⟩, List.forall_mem_nil _⟩) (by decide) (by decide) w_classLink_RL_13_java_lang_IllegalArgumentException_ q1 q2 q3 ?_
      refine lv_astore (lv' := [(4, .ref q), (0, .ref (xAd κ 234)), (1, .int x1), (2, .int x2), (3, .ref (xAd κ 254))]) hx hb dL_payFor_16 hl (by decide) rfl (fun ls hl => ?_)
      refine lv_iconst (v := 2) hx hb dL_payFor_18 (by decide) ?_
      cases hf
      exact K _ _ _ _ _ _ (by decide) (by decide) dL_payFor_19 hw
    have hf := xif_f c14 hf
    by_cases c15 : e1 = 3
    · subst c15
      have hf := xif_t rfl hf
      refine x_catch (pre := [(0, 9, 12, 20), (0, 9, 16, 13)]) (x := (0, 9, 20, 15)) (suf := []) (ec := 3) hc hT rfl (by decide) (List.forall_mem_cons.mpr ⟨⟨by decide, "java/lang/IndexOutOfBoundsException", by decide, w_classLink_RL_20_java_lang_IndexOutOfBoundsException_, by decide⟩, List.forall_mem_cons.mpr ⟨⟨by decide, "java/lang/IllegalArgumentException", by decide, w_classLink_RL_13_java_lang_IllegalArgumentException_, by decide⟩, List.forall_mem_nil _⟩⟩) (by decide) (by decide) w_classLink_RL_15_java_lang_IllegalStateException_ q1 q2 q3 ?_
      refine lv_astore (lv' := [(4, .ref q), (0, .ref (xAd κ 234)), (1, .int x1), (2, .int x2), (3, .ref (xAd κ 254))]) hx hb dL_payFor_20 hl (by decide) rfl (fun ls hl => ?_)
      refine lv_iconst (v := 3) hx hb dL_payFor_22 (by decide) ?_
      cases hf
      exact K _ _ _ _ _ _ (by decide) (by decide) dL_payFor_23 hw
    have hf := xif_f c15 hf
    cases hf
  · have hf := xif_t c11 hf
    obtain ⟨k12, hf⟩ := xk_of hf
    refine x_last (n := 1) (f := uo) (σ' := (upA uA_3 0 (uP_4, uC, uD_5, uJ_6, ur, ut, ud, ug), (uT0, uT1, uT2, uT3, uT4, uT5, uT6, uT7, uT8), (uG0, uG1, uG2), (uM0, uM1_7, uM2_8, uM3_9, uM4), wF, (vp_updL uo (0 : Int32).toNatClampNeg v2), uv)) hc hw co_254 k12 so_O_0 dL_payFor_8 (fun H locs hw => ?_)
    refine lv_goto (tgt := 24) hx hb dL_payFor_9 (by decide) ?_
    refine lv_iconst (v := 0) hx hb dL_payFor_24 (by decide) ?_
    cases hf
    exact K _ _ _ _ _ _ (by decide) (by decide) dL_payFor_25 hw
def f_L_giveBack (fu : Nat) (uA : Nat → sAcc) (uP : sPar) (uC : sCla) (uD : sDeb) (uJ : sJou) (ur : xF32) (ut : xF32) (ud : Int32) (ug : Int32) (uM1 : Int32) (uM2 : Int32) (uM3 : Int32) (uo : xF64) : Option (Int32 × (Nat → sAcc) × sPar × sJou × Int32 × Int32 × Int32 × xF64) :=
  xb8 (f_X7_giveBack fu uA uP uC uD uJ ur ut ud ug uM1 uM2 uM3) fun e1 v2 uA_3 uP_4 uJ_5 uM1_6 uM2_7 uM3_8 => (if e1 = 0 then (xk (xin 0 1) (some (0, uA_3, uP_4, uJ_5, uM1_6, uM2_7, uM3_8, (vp_updL uo (0 : Int32).toNatClampNeg v2)))) else (if e1 = 4 then (some (1, uA_3, uP_4, uJ_5, uM1_6, uM2_7, uM3_8, uo)) else (none)))
set_option maxHeartbeats 4000000 in
set_option maxRecDepth 100000 in
theorem m_L_giveBack {l : Launch} {κ : xKt} {wF : sRef} {fu : Nat} {uA : Nat → sAcc} {uP : sPar} {uC : sCla} {uD : sDeb} {uJ : sJou} {ur : xF32} {ut : xF32} {ud : Int32} {ug : Int32} {uT0 : Int32} {uT1 : xF32} {uT2 : Int32} {uT3 : Int32} {uT4 : Int32} {uT5 : xF32} {uT6 : xF32} {uT7 : xF32} {uT8 : xF32} {uG0 : Int32} {uG1 : xF32} {uG2 : xF32} {uM0 : Int32} {uM1 : Int32} {uM2 : Int32} {uM3 : Int32} {uM4 : Int32} {uo : xF64} {uv : Nat → UInt64} {rr : Int32} {yA : Nat → sAcc} {yP : sPar} {yJ : sJou} {yM1 : Int32} {yM2 : Int32} {yM3 : Int32} {yo : xF64} (hf : f_L_giveBack fu uA uP uC uD uJ ur ut ud ug uM1 uM2 uM3 uo = some (rr, yA, yP, yJ, yM1, yM2, yM3, yo)) : xHi l κ yL_giveBack cL_giveBack 3 (some .int) [(0, 7, 10, 36)] (xR 7 1 6) [.ref (xAd κ 234), .ref (xAd κ 254)] (upA uA 0 (uP, uC, uD, uJ, ur, ut, ud, ug), (uT0, uT1, uT2, uT3, uT4, uT5, uT6, uT7, uT8), (uG0, uG1, uG2), (uM0, uM1, uM2, uM3, uM4), wF, uo, uv) (upA yA 0 (yP, uC, uD, yJ, ur, ut, ud, ug), (uT0, uT1, uT2, uT3, uT4, uT5, uT6, uT7, uT8), (uG0, uG1, uG2), (uM0, yM1, yM2, yM3, uM4), wF, yo, uv) rr := by
  unfold f_L_giveBack at hf
  refine xHi_of pn_L (Nat.le_of_ble_eq_true rfl) ?_
  intro A p e s m args below meth c ls Q hlt hc hT hw hl K
  have hc : xC κ A p s m args meth c cL_giveBack RL 3 (some .int) := hc
  have hx := hc.1.1
  have hb := hc.1.2.1
  have hl : lv_has ls 3 [(0, .ref (xAd κ 234)), (1, .ref (xAd κ 254))] := hl
  refine lv_aload_n hx hb dL_giveBack_0 rfl (lv_at hl 1 rfl) ?_
  refine lv_iconst (v := 0) hx hb dL_giveBack_1 (by decide) ?_
  refine lv_aload_n hx hb dL_giveBack_2 rfl (lv_at hl 0 rfl) ?_
  obtain ⟨e1, v2, uA_3, uP_4, uJ_5, uM1_6, uM2_7, uM3_8, h9, hf⟩ := xb8_of hf
  refine x_tcalllV (As := []) (rest := [.int 0, .ref (xAd κ 254)]) (σ' := (upA uA_3 0 (uP_4, uC, uD, uJ_5, ur, ut, ud, ug), (uT0, uT1, uT2, uT3, uT4, uT5, uT6, uT7, uT8), (uG0, uG1, uG2), (uM0, uM1_6, uM2_7, uM3_8, uM4), wF, uo, uv)) hc hw hl.1 hlt (m_X7_giveBack h9) kL_72 co_234 rfl rfl ⟨rfl, rfl⟩ ⟨Nat.le_of_ble_eq_true rfl, Nat.le_of_ble_eq_true rfl⟩ ⟨Nat.le_of_ble_eq_true rfl, Nat.le_of_ble_eq_true rfl⟩ (Nat.le_of_ble_eq_true rfl) dL_giveBack_3 (fun c10 H locs q ce hw q1 q2 q3 => ?_) (fun c10 H locs hw => ?_)
  · have hf := xif_f c10 hf
    by_cases c12 : e1 = 4
    · subst c12
      have hf := xif_t rfl hf
      refine x_catch (pre := []) (x := (0, 7, 10, 36)) (suf := []) (ec := 4) hc hT rfl (by decide) (List.forall_mem_nil _) (by decide) (by decide) w_classLink_RL_36_java_lang_UnsupportedOperationException_ q1 q2 q3 ?_
      refine lv_astore_n (lv' := [(2, .ref q), (0, .ref (xAd κ 234)), (1, .ref (xAd κ 254))]) hx hb dL_giveBack_10 rfl hl (by decide) rfl (fun ls hl => ?_)
      refine lv_iconst (v := 1) hx hb dL_giveBack_11 (by decide) ?_
      cases hf
      exact K _ _ _ _ _ _ (by decide) (by decide) dL_giveBack_12 hw
    have hf := xif_f c12 hf
    cases hf
  · have hf := xif_t c10 hf
    obtain ⟨k11, hf⟩ := xk_of hf
    refine x_last (n := 1) (f := uo) (σ' := (upA uA_3 0 (uP_4, uC, uD, uJ_5, ur, ut, ud, ug), (uT0, uT1, uT2, uT3, uT4, uT5, uT6, uT7, uT8), (uG0, uG1, uG2), (uM0, uM1_6, uM2_7, uM3_8, uM4), wF, (vp_updL uo (0 : Int32).toNatClampNeg v2), uv)) hc hw co_254 k11 so_O_0 dL_giveBack_6 (fun H locs hw => ?_)
    refine lv_goto (tgt := 13) hx hb dL_giveBack_7 (by decide) ?_
    refine lv_iconst (v := 0) hx hb dL_giveBack_13 (by decide) ?_
    cases hf
    exact K _ _ _ _ _ _ (by decide) (by decide) dL_giveBack_14 hw
def f_L_owed (fu : Nat) (x1 : Int32) (x2 : Int32) (uP : sPar) (uD : sDeb) (uo : xF64) : Option (Int32 × xF64) :=
  xb2 (f_X7_owed fu x1 x2 uP uD) fun e1 v2 => (if e1 = 0 then (xk (xin 0 1) (some (0, (vp_updL uo (0 : Int32).toNatClampNeg v2)))) else (if e1 = 1 then (some (1, uo)) else (none)))
set_option maxHeartbeats 4000000 in
set_option maxRecDepth 100000 in
theorem m_L_owed {l : Launch} {κ : xKt} {wF : sRef} {fu : Nat} {x1 : Int32} {x2 : Int32} {uA : Nat → sAcc} {uP : sPar} {uC : sCla} {uD : sDeb} {uJ : sJou} {ur : xF32} {ut : xF32} {ud : Int32} {ug : Int32} {uT0 : Int32} {uT1 : xF32} {uT2 : Int32} {uT3 : Int32} {uT4 : Int32} {uT5 : xF32} {uT6 : xF32} {uT7 : xF32} {uT8 : xF32} {uG0 : Int32} {uG1 : xF32} {uG2 : xF32} {uM0 : Int32} {uM1 : Int32} {uM2 : Int32} {uM3 : Int32} {uM4 : Int32} {uo : xF64} {uv : Nat → UInt64} {rr : Int32} {yo : xF64} (hf : f_L_owed fu x1 x2 uP uD uo = some (rr, yo)) : xHi l κ yL_owed cL_owed 5 (some .int) [(0, 9, 12, 20)] (xR 3 1 6) [.ref (xAd κ 234), .int x1, .int x2, .ref (xAd κ 254)] (upA uA 0 (uP, uC, uD, uJ, ur, ut, ud, ug), (uT0, uT1, uT2, uT3, uT4, uT5, uT6, uT7, uT8), (uG0, uG1, uG2), (uM0, uM1, uM2, uM3, uM4), wF, uo, uv) (upA uA 0 (uP, uC, uD, uJ, ur, ut, ud, ug), (uT0, uT1, uT2, uT3, uT4, uT5, uT6, uT7, uT8), (uG0, uG1, uG2), (uM0, uM1, uM2, uM3, uM4), wF, yo, uv) rr := by
  unfold f_L_owed at hf
  refine xHi_of pn_L (Nat.le_of_ble_eq_true rfl) ?_
  intro A p e s m args below meth c ls Q hlt hc hT hw hl K
  have hc : xC κ A p s m args meth c cL_owed RL 5 (some .int) := hc
  have hx := hc.1.1
  have hb := hc.1.2.1
  have hl : lv_has ls 5 [(0, .ref (xAd κ 234)), (1, .int x1), (2, .int x2), (3, .ref (xAd κ 254))] := hl
  refine lv_aload_n hx hb dL_owed_0 rfl (lv_at hl 3 rfl) ?_
  refine lv_iconst (v := 0) hx hb dL_owed_1 (by decide) ?_
  refine lv_aload_n hx hb dL_owed_2 rfl (lv_at hl 0 rfl) ?_
  refine lv_iload_n hx hb dL_owed_3 rfl (lv_at hl 1 rfl) ?_
  refine lv_iload_n hx hb dL_owed_4 rfl (lv_at hl 2 rfl) ?_
  obtain ⟨e1, v2, h3, hf⟩ := xb2_of hf
  refine x_tcalllV (As := [.int x1, .int x2]) (rest := [.int 0, .ref (xAd κ 254)]) (σ' := (upA uA 0 (uP, uC, uD, uJ, ur, ut, ud, ug), (uT0, uT1, uT2, uT3, uT4, uT5, uT6, uT7, uT8), (uG0, uG1, uG2), (uM0, uM1, uM2, uM3, uM4), wF, uo, uv)) hc hw hl.1 hlt (m_X7_owed h3) kL_76 co_234 rfl rfl ⟨rfl, rfl⟩ ⟨Nat.le_of_ble_eq_true rfl, Nat.le_of_ble_eq_true rfl⟩ ⟨Nat.le_of_ble_eq_true rfl, Nat.le_of_ble_eq_true rfl⟩ (Nat.le_of_ble_eq_true rfl) dL_owed_5 (fun c4 H locs q ce hw q1 q2 q3 => ?_) (fun c4 H locs hw => ?_)
  · have hf := xif_f c4 hf
    by_cases c6 : e1 = 1
    · subst c6
      have hf := xif_t rfl hf
      refine x_catch (pre := []) (x := (0, 9, 12, 20)) (suf := []) (ec := 1) hc hT rfl (by decide) (List.forall_mem_nil _) (by decide) (by decide) w_classLink_RL_20_java_lang_IndexOutOfBoundsException_ q1 q2 q3 ?_
      refine lv_astore (lv' := [(4, .ref q), (0, .ref (xAd κ 234)), (1, .int x1), (2, .int x2), (3, .ref (xAd κ 254))]) hx hb dL_owed_12 hl (by decide) rfl (fun ls hl => ?_)
      refine lv_iconst (v := 1) hx hb dL_owed_14 (by decide) ?_
      cases hf
      exact K _ _ _ _ _ _ (by decide) (by decide) dL_owed_15 hw
    have hf := xif_f c6 hf
    cases hf
  · have hf := xif_t c4 hf
    obtain ⟨k5, hf⟩ := xk_of hf
    refine x_last (n := 1) (f := uo) (σ' := (upA uA 0 (uP, uC, uD, uJ, ur, ut, ud, ug), (uT0, uT1, uT2, uT3, uT4, uT5, uT6, uT7, uT8), (uG0, uG1, uG2), (uM0, uM1, uM2, uM3, uM4), wF, (vp_updL uo (0 : Int32).toNatClampNeg v2), uv)) hc hw co_254 k5 so_O_0 dL_owed_8 (fun H locs hw => ?_)
    refine lv_goto (tgt := 16) hx hb dL_owed_9 (by decide) ?_
    refine lv_iconst (v := 0) hx hb dL_owed_16 (by decide) ?_
    cases hf
    exact K _ _ _ _ _ _ (by decide) (by decide) dL_owed_17 hw
def f_L_debt (x1 : Int32) (x2 : Int32) (uD : sDeb) (uM3 : Int32) (uo : xF64) : Option (Int32 × Int32 × xF64) :=
  xb3 (f_X7_debt x1 x2 uD uM3) fun e1 v2 uM3_3 => (if e1 = 0 then (xk (xin 0 1) (some (0, uM3_3, (vp_updL uo (0 : Int32).toNatClampNeg v2)))) else (if e1 = 1 then (some (1, uM3_3, uo)) else (if e1 = 2 then (some (2, uM3_3, uo)) else (none))))
set_option maxHeartbeats 4000000 in
set_option maxRecDepth 100000 in
theorem m_L_debt {l : Launch} {κ : xKt} {wF : sRef}  {x1 : Int32} {x2 : Int32} {uA : Nat → sAcc} {uP : sPar} {uC : sCla} {uD : sDeb} {uJ : sJou} {ur : xF32} {ut : xF32} {ud : Int32} {ug : Int32} {uT0 : Int32} {uT1 : xF32} {uT2 : Int32} {uT3 : Int32} {uT4 : Int32} {uT5 : xF32} {uT6 : xF32} {uT7 : xF32} {uT8 : xF32} {uG0 : Int32} {uG1 : xF32} {uG2 : xF32} {uM0 : Int32} {uM1 : Int32} {uM2 : Int32} {uM3 : Int32} {uM4 : Int32} {uo : xF64} {uv : Nat → UInt64} {rr : Int32} {yM3 : Int32} {yo : xF64} (hf : f_L_debt x1 x2 uD uM3 uo = some (rr, yM3, yo)) : xHi l κ yL_debt cL_debt 5 (some .int) [(0, 9, 12, 20), (0, 9, 16, 13)] (xR 3 1 6) [.ref (xAd κ 234), .int x1, .int x2, .ref (xAd κ 254)] (upA uA 0 (uP, uC, uD, uJ, ur, ut, ud, ug), (uT0, uT1, uT2, uT3, uT4, uT5, uT6, uT7, uT8), (uG0, uG1, uG2), (uM0, uM1, uM2, uM3, uM4), wF, uo, uv) (upA uA 0 (uP, uC, uD, uJ, ur, ut, ud, ug), (uT0, uT1, uT2, uT3, uT4, uT5, uT6, uT7, uT8), (uG0, uG1, uG2), (uM0, uM1, uM2, yM3, uM4), wF, yo, uv) rr := by
  unfold f_L_debt at hf
  refine xHi_of pn_L (Nat.le_of_ble_eq_true rfl) ?_
  intro A p e s m args below meth c ls Q hlt hc hT hw hl K
  have hc : xC κ A p s m args meth c cL_debt RL 5 (some .int) := hc
  have hx := hc.1.1
  have hb := hc.1.2.1
  have hl : lv_has ls 5 [(0, .ref (xAd κ 234)), (1, .int x1), (2, .int x2), (3, .ref (xAd κ 254))] := hl
  refine lv_aload_n hx hb dL_debt_0 rfl (lv_at hl 3 rfl) ?_
  refine lv_iconst (v := 0) hx hb dL_debt_1 (by decide) ?_
  refine lv_aload_n hx hb dL_debt_2 rfl (lv_at hl 0 rfl) ?_
  refine lv_iload_n hx hb dL_debt_3 rfl (lv_at hl 1 rfl) ?_
  refine lv_iload_n hx hb dL_debt_4 rfl (lv_at hl 2 rfl) ?_
  obtain ⟨e1, v2, uM3_3, h4, hf⟩ := xb3_of hf
  refine x_tcalllV (As := [.int x1, .int x2]) (rest := [.int 0, .ref (xAd κ 254)]) (σ' := (upA uA 0 (uP, uC, uD, uJ, ur, ut, ud, ug), (uT0, uT1, uT2, uT3, uT4, uT5, uT6, uT7, uT8), (uG0, uG1, uG2), (uM0, uM1, uM2, uM3_3, uM4), wF, uo, uv)) hc hw hl.1 hlt (m_X7_debt h4) kL_79 co_234 rfl rfl ⟨rfl, rfl⟩ ⟨Nat.le_of_ble_eq_true rfl, Nat.le_of_ble_eq_true rfl⟩ ⟨Nat.le_of_ble_eq_true rfl, Nat.le_of_ble_eq_true rfl⟩ (Nat.le_of_ble_eq_true rfl) dL_debt_5 (fun c5 H locs q ce hw q1 q2 q3 => ?_) (fun c5 H locs hw => ?_)
  · have hf := xif_f c5 hf
    by_cases c7 : e1 = 1
    · subst c7
      have hf := xif_t rfl hf
      refine x_catch (pre := []) (x := (0, 9, 12, 20)) (suf := [(0, 9, 16, 13)]) (ec := 1) hc hT rfl (by decide) (List.forall_mem_nil _) (by decide) (by decide) w_classLink_RL_20_java_lang_IndexOutOfBoundsException_ q1 q2 q3 ?_
      refine lv_astore (lv' := [(4, .ref q), (0, .ref (xAd κ 234)), (1, .int x1), (2, .int x2), (3, .ref (xAd κ 254))]) hx hb dL_debt_12 hl (by decide) rfl (fun ls hl => ?_)
      refine lv_iconst (v := 1) hx hb dL_debt_14 (by decide) ?_
      cases hf
      exact K _ _ _ _ _ _ (by decide) (by decide) dL_debt_15 hw
    have hf := xif_f c7 hf
    by_cases c8 : e1 = 2
    · subst c8
      have hf := xif_t rfl hf
      refine x_catch (pre := [(0, 9, 12, 20)]) (x := (0, 9, 16, 13)) (suf := []) (ec := 2) hc hT rfl (by decide) (List.forall_mem_cons.mpr ⟨⟨by decide, "java/lang/IndexOutOfBoundsException", by decide, w_classLink_RL_20_java_lang_IndexOutOfBoundsException_, by decide⟩, List.forall_mem_nil _⟩) (by decide) (by decide) w_classLink_RL_13_java_lang_IllegalArgumentException_ q1 q2 q3 ?_
      refine lv_astore (lv' := [(4, .ref q), (0, .ref (xAd κ 234)), (1, .int x1), (2, .int x2), (3, .ref (xAd κ 254))]) hx hb dL_debt_16 hl (by decide) rfl (fun ls hl => ?_)
      refine lv_iconst (v := 2) hx hb dL_debt_18 (by decide) ?_
      cases hf
      exact K _ _ _ _ _ _ (by decide) (by decide) dL_debt_19 hw
    have hf := xif_f c8 hf
    cases hf
  · have hf := xif_t c5 hf
    obtain ⟨k6, hf⟩ := xk_of hf
    refine x_last (n := 1) (f := uo) (σ' := (upA uA 0 (uP, uC, uD, uJ, ur, ut, ud, ug), (uT0, uT1, uT2, uT3, uT4, uT5, uT6, uT7, uT8), (uG0, uG1, uG2), (uM0, uM1, uM2, uM3_3, uM4), wF, (vp_updL uo (0 : Int32).toNatClampNeg v2), uv)) hc hw co_254 k6 so_O_0 dL_debt_8 (fun H locs hw => ?_)
    refine lv_goto (tgt := 20) hx hb dL_debt_9 (by decide) ?_
    refine lv_iconst (v := 0) hx hb dL_debt_20 (by decide) ?_
    cases hf
    exact K _ _ _ _ _ _ (by decide) (by decide) dL_debt_21 hw
def f_L_settle (fu : Nat) (x1 : Int32) (x2 : Int32) (x3 : Int32) (uA : Nat → sAcc) (uP : sPar) (uC : sCla) (uD : sDeb) (uJ : sJou) (ur : xF32) (ut : xF32) (ud : Int32) (ug : Int32) (uM1 : Int32) (uM2 : Int32) (uM3 : Int32) (uo : xF64) : Option (Int32 × (Nat → sAcc) × sDeb × sJou × Int32 × Int32 × Int32 × xF64) :=
  xb8 (f_X7_settle fu x1 x2 x3 uA uP uC uD uJ ur ut ud ug uM1 uM2 uM3) fun e1 v2 uA_3 uD_4 uJ_5 uM1_6 uM2_7 uM3_8 => (if e1 = 0 then (xk (xin 0 1) (some (0, uA_3, uD_4, uJ_5, uM1_6, uM2_7, uM3_8, (vp_updL uo (0 : Int32).toNatClampNeg v2)))) else (if e1 = 1 then (some (1, uA_3, uD_4, uJ_5, uM1_6, uM2_7, uM3_8, uo)) else (if e1 = 2 then (some (2, uA_3, uD_4, uJ_5, uM1_6, uM2_7, uM3_8, uo)) else (if e1 = 4 then (some (3, uA_3, uD_4, uJ_5, uM1_6, uM2_7, uM3_8, uo)) else (none)))))
set_option maxHeartbeats 4000000 in
set_option maxRecDepth 100000 in
theorem m_L_settle {l : Launch} {κ : xKt} {wF : sRef} {fu : Nat} {x1 : Int32} {x2 : Int32} {x3 : Int32} {uA : Nat → sAcc} {uP : sPar} {uC : sCla} {uD : sDeb} {uJ : sJou} {ur : xF32} {ut : xF32} {ud : Int32} {ug : Int32} {uT0 : Int32} {uT1 : xF32} {uT2 : Int32} {uT3 : Int32} {uT4 : Int32} {uT5 : xF32} {uT6 : xF32} {uT7 : xF32} {uT8 : xF32} {uG0 : Int32} {uG1 : xF32} {uG2 : xF32} {uM0 : Int32} {uM1 : Int32} {uM2 : Int32} {uM3 : Int32} {uM4 : Int32} {uo : xF64} {uv : Nat → UInt64} {rr : Int32} {yA : Nat → sAcc} {yD : sDeb} {yJ : sJou} {yM1 : Int32} {yM2 : Int32} {yM3 : Int32} {yo : xF64} (hf : f_L_settle fu x1 x2 x3 uA uP uC uD uJ ur ut ud ug uM1 uM2 uM3 uo = some (rr, yA, yD, yJ, yM1, yM2, yM3, yo)) : xHi l κ yL_settle cL_settle 6 (some .int) [(0, 11, 14, 20), (0, 11, 18, 13), (0, 11, 22, 36)] (xR 4 1 6) [.ref (xAd κ 234), .int x1, .int x2, .int x3, .ref (xAd κ 254)] (upA uA 0 (uP, uC, uD, uJ, ur, ut, ud, ug), (uT0, uT1, uT2, uT3, uT4, uT5, uT6, uT7, uT8), (uG0, uG1, uG2), (uM0, uM1, uM2, uM3, uM4), wF, uo, uv) (upA yA 0 (uP, uC, yD, yJ, ur, ut, ud, ug), (uT0, uT1, uT2, uT3, uT4, uT5, uT6, uT7, uT8), (uG0, uG1, uG2), (uM0, yM1, yM2, yM3, uM4), wF, yo, uv) rr := by
  unfold f_L_settle at hf
  refine xHi_of pn_L (Nat.le_of_ble_eq_true rfl) ?_
  intro A p e s m args below meth c ls Q hlt hc hT hw hl K
  have hc : xC κ A p s m args meth c cL_settle RL 6 (some .int) := hc
  have hx := hc.1.1
  have hb := hc.1.2.1
  have hl : lv_has ls 6 [(0, .ref (xAd κ 234)), (1, .int x1), (2, .int x2), (3, .int x3), (4, .ref (xAd κ 254))] := hl
  refine lv_aload hx hb dL_settle_0 (lv_at hl 4 rfl) ?_
  refine lv_iconst (v := 0) hx hb dL_settle_2 (by decide) ?_
  refine lv_aload_n hx hb dL_settle_3 rfl (lv_at hl 0 rfl) ?_
  refine lv_iload_n hx hb dL_settle_4 rfl (lv_at hl 1 rfl) ?_
  refine lv_iload_n hx hb dL_settle_5 rfl (lv_at hl 2 rfl) ?_
  refine lv_iload_n hx hb dL_settle_6 rfl (lv_at hl 3 rfl) ?_
  obtain ⟨e1, v2, uA_3, uD_4, uJ_5, uM1_6, uM2_7, uM3_8, h9, hf⟩ := xb8_of hf
  refine x_tcalllV (As := [.int x1, .int x2, .int x3]) (rest := [.int 0, .ref (xAd κ 254)]) (σ' := (upA uA_3 0 (uP, uC, uD_4, uJ_5, ur, ut, ud, ug), (uT0, uT1, uT2, uT3, uT4, uT5, uT6, uT7, uT8), (uG0, uG1, uG2), (uM0, uM1_6, uM2_7, uM3_8, uM4), wF, uo, uv)) hc hw hl.1 hlt (m_X7_settle h9) kL_82 co_234 rfl rfl ⟨rfl, rfl⟩ ⟨Nat.le_of_ble_eq_true rfl, Nat.le_of_ble_eq_true rfl⟩ ⟨Nat.le_of_ble_eq_true rfl, Nat.le_of_ble_eq_true rfl⟩ (Nat.le_of_ble_eq_true rfl) dL_settle_7 (fun c10 H locs q ce hw q1 q2 q3 => ?_) (fun c10 H locs hw => ?_)
  · have hf := xif_f c10 hf
    by_cases c12 : e1 = 1
    · subst c12
      have hf := xif_t rfl hf
      refine x_catch (pre := []) (x := (0, 11, 14, 20)) (suf := [(0, 11, 18, 13), (0, 11, 22, 36)]) (ec := 1) hc hT rfl (by decide) (List.forall_mem_nil _) (by decide) (by decide) w_classLink_RL_20_java_lang_IndexOutOfBoundsException_ q1 q2 q3 ?_
      refine lv_astore (lv' := [(5, .ref q), (0, .ref (xAd κ 234)), (1, .int x1), (2, .int x2), (3, .int x3), (4, .ref (xAd κ 254))]) hx hb dL_settle_14 hl (by decide) rfl (fun ls hl => ?_)
      refine lv_iconst (v := 1) hx hb dL_settle_16 (by decide) ?_
      cases hf
      exact K _ _ _ _ _ _ (by decide) (by decide) dL_settle_17 hw
    have hf := xif_f c12 hf
    by_cases c13 : e1 = 2
    · subst c13
      have hf := xif_t rfl hf
      refine x_catch (pre := [(0, 11, 14, 20)]) (x := (0, 11, 18, 13)) (suf := [(0, 11, 22, 36)]) (ec := 2) hc hT rfl (by decide) (List.forall_mem_cons.mpr ⟨⟨by decide, "java/lang/IndexOutOfBoundsException", by decide, w_classLink_RL_20_java_lang_IndexOutOfBoundsException_, by decide⟩, List.forall_mem_nil _⟩) (by decide) (by decide) w_classLink_RL_13_java_lang_IllegalArgumentException_ q1 q2 q3 ?_
      refine lv_astore (lv' := [(5, .ref q), (0, .ref (xAd κ 234)), (1, .int x1), (2, .int x2), (3, .int x3), (4, .ref (xAd κ 254))]) hx hb dL_settle_18 hl (by decide) rfl (fun ls hl => ?_)
      refine lv_iconst (v := 2) hx hb dL_settle_20 (by decide) ?_
      cases hf
      exact K _ _ _ _ _ _ (by decide) (by decide) dL_settle_21 hw
    have hf := xif_f c13 hf
    by_cases c14 : e1 = 4
    · subst c14
      have hf := xif_t rfl hf
      refine x_catch (pre := [(0, 11, 14, 20), (0, 11, 18, 13)]) (x := (0, 11, 22, 36)) (suf := []) (ec := 4) hc hT rfl (by decide) (List.forall_mem_cons.mpr ⟨⟨by decide, "java/lang/IndexOutOfBoundsException", by decide, w_classLink_RL_20_java_lang_IndexOutOfBoundsException_, by decide⟩, List.forall_mem_cons.mpr ⟨⟨by decide, "java/lang/IllegalArgumentException", by decide, w_classLink_RL_13_java_lang_IllegalArgumentException_, by decide⟩, List.forall_mem_nil _⟩⟩) (by decide) (by decide) w_classLink_RL_36_java_lang_UnsupportedOperationException_ q1 q2 q3 ?_
      refine lv_astore (lv' := [(5, .ref q), (0, .ref (xAd κ 234)), (1, .int x1), (2, .int x2), (3, .int x3), (4, .ref (xAd κ 254))]) hx hb dL_settle_22 hl (by decide) rfl (fun ls hl => ?_)
      refine lv_iconst (v := 3) hx hb dL_settle_24 (by decide) ?_
      cases hf
      exact K _ _ _ _ _ _ (by decide) (by decide) dL_settle_25 hw
    have hf := xif_f c14 hf
    cases hf
  · have hf := xif_t c10 hf
    obtain ⟨k11, hf⟩ := xk_of hf
    refine x_last (n := 1) (f := uo) (σ' := (upA uA_3 0 (uP, uC, uD_4, uJ_5, ur, ut, ud, ug), (uT0, uT1, uT2, uT3, uT4, uT5, uT6, uT7, uT8), (uG0, uG1, uG2), (uM0, uM1_6, uM2_7, uM3_8, uM4), wF, (vp_updL uo (0 : Int32).toNatClampNeg v2), uv)) hc hw co_254 k11 so_O_0 dL_settle_10 (fun H locs hw => ?_)
    refine lv_goto (tgt := 26) hx hb dL_settle_11 (by decide) ?_
    refine lv_iconst (v := 0) hx hb dL_settle_26 (by decide) ?_
    cases hf
    exact K _ _ _ _ _ _ (by decide) (by decide) dL_settle_27 hw
def f_L_offset (fu : Nat) (x1 : Int32) (x2 : Int32) (uA : Nat → sAcc) (uP : sPar) (uC : sCla) (uD : sDeb) (uJ : sJou) (ur : xF32) (ut : xF32) (ud : Int32) (ug : Int32) (uM1 : Int32) (uM2 : Int32) (uM3 : Int32) (uo : xF64) : Option (Int32 × (Nat → sAcc) × sDeb × sJou × Int32 × Int32 × Int32 × xF64) :=
  xb8 (f_X7_offset fu x1 x2 uA uP uC uD uJ ur ut ud ug uM1 uM2 uM3) fun e1 v2 uA_3 uD_4 uJ_5 uM1_6 uM2_7 uM3_8 => (if e1 = 0 then (xk (xin 0 1) (some (0, uA_3, uD_4, uJ_5, uM1_6, uM2_7, uM3_8, (vp_updL uo (0 : Int32).toNatClampNeg v2)))) else (if e1 = 1 then (some (1, uA_3, uD_4, uJ_5, uM1_6, uM2_7, uM3_8, uo)) else (if e1 = 2 then (some (2, uA_3, uD_4, uJ_5, uM1_6, uM2_7, uM3_8, uo)) else (if e1 = 4 then (some (3, uA_3, uD_4, uJ_5, uM1_6, uM2_7, uM3_8, uo)) else (none)))))
set_option maxHeartbeats 4000000 in
set_option maxRecDepth 100000 in
theorem m_L_offset {l : Launch} {κ : xKt} {wF : sRef} {fu : Nat} {x1 : Int32} {x2 : Int32} {uA : Nat → sAcc} {uP : sPar} {uC : sCla} {uD : sDeb} {uJ : sJou} {ur : xF32} {ut : xF32} {ud : Int32} {ug : Int32} {uT0 : Int32} {uT1 : xF32} {uT2 : Int32} {uT3 : Int32} {uT4 : Int32} {uT5 : xF32} {uT6 : xF32} {uT7 : xF32} {uT8 : xF32} {uG0 : Int32} {uG1 : xF32} {uG2 : xF32} {uM0 : Int32} {uM1 : Int32} {uM2 : Int32} {uM3 : Int32} {uM4 : Int32} {uo : xF64} {uv : Nat → UInt64} {rr : Int32} {yA : Nat → sAcc} {yD : sDeb} {yJ : sJou} {yM1 : Int32} {yM2 : Int32} {yM3 : Int32} {yo : xF64} (hf : f_L_offset fu x1 x2 uA uP uC uD uJ ur ut ud ug uM1 uM2 uM3 uo = some (rr, yA, yD, yJ, yM1, yM2, yM3, yo)) : xHi l κ yL_offset cL_offset 5 (some .int) [(0, 9, 12, 20), (0, 9, 16, 13), (0, 9, 20, 36)] (xR 4 1 6) [.ref (xAd κ 234), .int x1, .int x2, .ref (xAd κ 254)] (upA uA 0 (uP, uC, uD, uJ, ur, ut, ud, ug), (uT0, uT1, uT2, uT3, uT4, uT5, uT6, uT7, uT8), (uG0, uG1, uG2), (uM0, uM1, uM2, uM3, uM4), wF, uo, uv) (upA yA 0 (uP, uC, yD, yJ, ur, ut, ud, ug), (uT0, uT1, uT2, uT3, uT4, uT5, uT6, uT7, uT8), (uG0, uG1, uG2), (uM0, yM1, yM2, yM3, uM4), wF, yo, uv) rr := by
  unfold f_L_offset at hf
  refine xHi_of pn_L (Nat.le_of_ble_eq_true rfl) ?_
  intro A p e s m args below meth c ls Q hlt hc hT hw hl K
  have hc : xC κ A p s m args meth c cL_offset RL 5 (some .int) := hc
  have hx := hc.1.1
  have hb := hc.1.2.1
  have hl : lv_has ls 5 [(0, .ref (xAd κ 234)), (1, .int x1), (2, .int x2), (3, .ref (xAd κ 254))] := hl
  refine lv_aload_n hx hb dL_offset_0 rfl (lv_at hl 3 rfl) ?_
  refine lv_iconst (v := 0) hx hb dL_offset_1 (by decide) ?_
  refine lv_aload_n hx hb dL_offset_2 rfl (lv_at hl 0 rfl) ?_
  refine lv_iload_n hx hb dL_offset_3 rfl (lv_at hl 1 rfl) ?_
  refine lv_iload_n hx hb dL_offset_4 rfl (lv_at hl 2 rfl) ?_
  obtain ⟨e1, v2, uA_3, uD_4, uJ_5, uM1_6, uM2_7, uM3_8, h9, hf⟩ := xb8_of hf
  refine x_tcalllV (As := [.int x1, .int x2]) (rest := [.int 0, .ref (xAd κ 254)]) (σ' := (upA uA_3 0 (uP, uC, uD_4, uJ_5, ur, ut, ud, ug), (uT0, uT1, uT2, uT3, uT4, uT5, uT6, uT7, uT8), (uG0, uG1, uG2), (uM0, uM1_6, uM2_7, uM3_8, uM4), wF, uo, uv)) hc hw hl.1 hlt (m_X7_offset h9) kL_86 co_234 rfl rfl ⟨rfl, rfl⟩ ⟨Nat.le_of_ble_eq_true rfl, Nat.le_of_ble_eq_true rfl⟩ ⟨Nat.le_of_ble_eq_true rfl, Nat.le_of_ble_eq_true rfl⟩ (Nat.le_of_ble_eq_true rfl) dL_offset_5 (fun c10 H locs q ce hw q1 q2 q3 => ?_) (fun c10 H locs hw => ?_)
  · have hf := xif_f c10 hf
    by_cases c12 : e1 = 1
    · subst c12
      have hf := xif_t rfl hf
      refine x_catch (pre := []) (x := (0, 9, 12, 20)) (suf := [(0, 9, 16, 13), (0, 9, 20, 36)]) (ec := 1) hc hT rfl (by decide) (List.forall_mem_nil _) (by decide) (by decide) w_classLink_RL_20_java_lang_IndexOutOfBoundsException_ q1 q2 q3 ?_
      refine lv_astore (lv' := [(4, .ref q), (0, .ref (xAd κ 234)), (1, .int x1), (2, .int x2), (3, .ref (xAd κ 254))]) hx hb dL_offset_12 hl (by decide) rfl (fun ls hl => ?_)
      refine lv_iconst (v := 1) hx hb dL_offset_14 (by decide) ?_
      cases hf
      exact K _ _ _ _ _ _ (by decide) (by decide) dL_offset_15 hw
    have hf := xif_f c12 hf
    by_cases c13 : e1 = 2
    · subst c13
      have hf := xif_t rfl hf
      refine x_catch (pre := [(0, 9, 12, 20)]) (x := (0, 9, 16, 13)) (suf := [(0, 9, 20, 36)]) (ec := 2) hc hT rfl (by decide) (List.forall_mem_cons.mpr ⟨⟨by decide, "java/lang/IndexOutOfBoundsException", by decide, w_classLink_RL_20_java_lang_IndexOutOfBoundsException_, by decide⟩, List.forall_mem_nil _⟩) (by decide) (by decide) w_classLink_RL_13_java_lang_IllegalArgumentException_ q1 q2 q3 ?_
      refine lv_astore (lv' := [(4, .ref q), (0, .ref (xAd κ 234)), (1, .int x1), (2, .int x2), (3, .ref (xAd κ 254))]) hx hb dL_offset_16 hl (by decide) rfl (fun ls hl => ?_)
      refine lv_iconst (v := 2) hx hb dL_offset_18 (by decide) ?_
      cases hf
      exact K _ _ _ _ _ _ (by decide) (by decide) dL_offset_19 hw
    have hf := xif_f c13 hf
    by_cases c14 : e1 = 4
    · subst c14
      have hf := xif_t rfl hf
      refine x_catch (pre := [(0, 9, 12, 20), (0, 9, 16, 13)]) (x := (0, 9, 20, 36)) (suf := []) (ec := 4) hc hT rfl (by decide) (List.forall_mem_cons.mpr ⟨⟨by decide, "java/lang/IndexOutOfBoundsException", by decide, w_classLink_RL_20_java_lang_IndexOutOfBoundsException_, by decide⟩, List.forall_mem_cons.mpr ⟨⟨by decide, "java/lang/IllegalArgumentException", by decide, w_classLink_RL_13_java_lang_IllegalArgumentException_, by decide⟩, List.forall_mem_nil _⟩⟩) (by decide) (by decide) w_classLink_RL_36_java_lang_UnsupportedOperationException_ q1 q2 q3 ?_
      refine lv_astore (lv' := [(4, .ref q), (0, .ref (xAd κ 234)), (1, .int x1), (2, .int x2), (3, .ref (xAd κ 254))]) hx hb dL_offset_20 hl (by decide) rfl (fun ls hl => ?_)
      refine lv_iconst (v := 3) hx hb dL_offset_22 (by decide) ?_
      cases hf
      exact K _ _ _ _ _ _ (by decide) (by decide) dL_offset_23 hw
    have hf := xif_f c14 hf
    cases hf
  · have hf := xif_t c10 hf
    obtain ⟨k11, hf⟩ := xk_of hf
    refine x_last (n := 1) (f := uo) (σ' := (upA uA_3 0 (uP, uC, uD_4, uJ_5, ur, ut, ud, ug), (uT0, uT1, uT2, uT3, uT4, uT5, uT6, uT7, uT8), (uG0, uG1, uG2), (uM0, uM1_6, uM2_7, uM3_8, uM4), wF, (vp_updL uo (0 : Int32).toNatClampNeg v2), uv)) hc hw co_254 k11 so_O_0 dL_offset_8 (fun H locs hw => ?_)
    refine lv_goto (tgt := 24) hx hb dL_offset_9 (by decide) ?_
    refine lv_iconst (v := 0) hx hb dL_offset_24 (by decide) ?_
    cases hf
    exact K _ _ _ _ _ _ (by decide) (by decide) dL_offset_25 hw
def f_L_ring (fu : Nat) (x1 : Int32) (uD : sDeb) (uG0 : Int32) (uG1 : xF32) (uG2 : xF32) (uo : xF64) : Option (Int32 × Int32 × xF32 × xF32 × xF64) :=
  xb5 (f_X7_ring fu x1 uD uG0 uG1 uG2) fun e1 v2 uG0_3 uG1_4 uG2_5 => (if e1 = 0 then (xk (xin 0 1) (some (0, uG0_3, uG1_4, uG2_5, (vp_updL uo (0 : Int32).toNatClampNeg v2.toInt64)))) else (if e1 = 5 then (some (1, uG0_3, uG1_4, uG2_5, uo)) else (none)))
set_option maxHeartbeats 4000000 in
set_option maxRecDepth 100000 in
theorem m_L_ring {l : Launch} {κ : xKt} {wF : sRef} {fu : Nat} {x1 : Int32} {uA : Nat → sAcc} {uP : sPar} {uC : sCla} {uD : sDeb} {uJ : sJou} {ur : xF32} {ut : xF32} {ud : Int32} {ug : Int32} {uT0 : Int32} {uT1 : xF32} {uT2 : Int32} {uT3 : Int32} {uT4 : Int32} {uT5 : xF32} {uT6 : xF32} {uT7 : xF32} {uT8 : xF32} {uG0 : Int32} {uG1 : xF32} {uG2 : xF32} {uM0 : Int32} {uM1 : Int32} {uM2 : Int32} {uM3 : Int32} {uM4 : Int32} {uo : xF64} {uv : Nat → UInt64} {rr : Int32} {yG0 : Int32} {yG1 : xF32} {yG2 : xF32} {yo : xF64} (hf : f_L_ring fu x1 uD uG0 uG1 uG2 uo = some (rr, yG0, yG1, yG2, yo)) : xHi l κ yL_ring cL_ring 4 (some .int) [(0, 9, 12, 51)] (xR 13 1 6) [.ref (xAd κ 234), .int x1, .ref (xAd κ 254)] (upA uA 0 (uP, uC, uD, uJ, ur, ut, ud, ug), (uT0, uT1, uT2, uT3, uT4, uT5, uT6, uT7, uT8), (uG0, uG1, uG2), (uM0, uM1, uM2, uM3, uM4), wF, uo, uv) (upA uA 0 (uP, uC, uD, uJ, ur, ut, ud, ug), (uT0, uT1, uT2, uT3, uT4, uT5, uT6, uT7, uT8), (yG0, yG1, yG2), (uM0, uM1, uM2, uM3, uM4), wF, yo, uv) rr := by
  unfold f_L_ring at hf
  refine xHi_of pn_L (Nat.le_of_ble_eq_true rfl) ?_
  intro A p e s m args below meth c ls Q hlt hc hT hw hl K
  have hc : xC κ A p s m args meth c cL_ring RL 4 (some .int) := hc
  have hx := hc.1.1
  have hb := hc.1.2.1
  have hl : lv_has ls 4 [(0, .ref (xAd κ 234)), (1, .int x1), (2, .ref (xAd κ 254))] := hl
  refine lv_aload_n hx hb dL_ring_0 rfl (lv_at hl 2 rfl) ?_
  refine lv_iconst (v := 0) hx hb dL_ring_1 (by decide) ?_
  refine lv_aload_n hx hb dL_ring_2 rfl (lv_at hl 0 rfl) ?_
  refine lv_iload_n hx hb dL_ring_3 rfl (lv_at hl 1 rfl) ?_
  obtain ⟨e1, v2, uG0_3, uG1_4, uG2_5, h6, hf⟩ := xb5_of hf
  refine x_tcalliV (As := [.int x1]) (rest := [.int 0, .ref (xAd κ 254)]) (σ' := (upA uA 0 (uP, uC, uD, uJ, ur, ut, ud, ug), (uT0, uT1, uT2, uT3, uT4, uT5, uT6, uT7, uT8), (uG0_3, uG1_4, uG2_5), (uM0, uM1, uM2, uM3, uM4), wF, uo, uv)) hc hw hl.1 hlt (m_X7_ring h6) kL_89 co_234 rfl rfl ⟨rfl, rfl⟩ ⟨Nat.le_of_ble_eq_true rfl, Nat.le_of_ble_eq_true rfl⟩ ⟨Nat.le_of_ble_eq_true rfl, Nat.le_of_ble_eq_true rfl⟩ (Nat.le_of_ble_eq_true rfl) dL_ring_4 (fun c7 H locs q ce hw q1 q2 q3 => ?_) (fun c7 H locs hw => ?_)
  · have hf := xif_f c7 hf
    by_cases c9 : e1 = 5
    · subst c9
      have hf := xif_t rfl hf
      refine x_catch (pre := []) (x := (0, 9, 12, 51)) (suf := []) (ec := 5) hc hT rfl (by decide) (List.forall_mem_nil _) (by decide) (by decide) w_classLink_RL_51_java_util_NoSuchElementException_ q1 q2 q3 ?_
      refine lv_astore_n (lv' := [(3, .ref q), (0, .ref (xAd κ 234)), (1, .int x1), (2, .ref (xAd κ 254))]) hx hb dL_ring_12 rfl hl (by decide) rfl (fun ls hl => ?_)
      refine lv_iconst (v := 1) hx hb dL_ring_13 (by decide) ?_
      cases hf
      exact K _ _ _ _ _ _ (by decide) (by decide) dL_ring_14 hw
    have hf := xif_f c9 hf
    cases hf
  · have hf := xif_t c7 hf
    refine lv_i2l (v := v2.toInt64) hx hb dL_ring_7 rfl ?_
    obtain ⟨k8, hf⟩ := xk_of hf
    refine x_last (n := 1) (f := uo) (σ' := (upA uA 0 (uP, uC, uD, uJ, ur, ut, ud, ug), (uT0, uT1, uT2, uT3, uT4, uT5, uT6, uT7, uT8), (uG0_3, uG1_4, uG2_5), (uM0, uM1, uM2, uM3, uM4), wF, (vp_updL uo (0 : Int32).toNatClampNeg v2.toInt64), uv)) hc hw co_254 k8 so_O_0 dL_ring_8 (fun H locs hw => ?_)
    refine lv_goto (tgt := 15) hx hb dL_ring_9 (by decide) ?_
    refine lv_iconst (v := 0) hx hb dL_ring_15 (by decide) ?_
    cases hf
    exact K _ _ _ _ _ _ (by decide) (by decide) dL_ring_16 hw
def f_L_net (fu : Nat) (x1 : Int32) (uP : sPar) (uD : sDeb) (uo : xF64) : Option (Int32 × xF64) :=
  xb2 (f_X7_net fu x1 uP uD) fun e1 v2 => (if e1 = 0 then (xk (xin 0 1) (some (0, (vp_updL uo (0 : Int32).toNatClampNeg v2)))) else (if e1 = 1 then (some (1, uo)) else (none)))
set_option maxHeartbeats 4000000 in
set_option maxRecDepth 100000 in
theorem m_L_net {l : Launch} {κ : xKt} {wF : sRef} {fu : Nat} {x1 : Int32} {uA : Nat → sAcc} {uP : sPar} {uC : sCla} {uD : sDeb} {uJ : sJou} {ur : xF32} {ut : xF32} {ud : Int32} {ug : Int32} {uT0 : Int32} {uT1 : xF32} {uT2 : Int32} {uT3 : Int32} {uT4 : Int32} {uT5 : xF32} {uT6 : xF32} {uT7 : xF32} {uT8 : xF32} {uG0 : Int32} {uG1 : xF32} {uG2 : xF32} {uM0 : Int32} {uM1 : Int32} {uM2 : Int32} {uM3 : Int32} {uM4 : Int32} {uo : xF64} {uv : Nat → UInt64} {rr : Int32} {yo : xF64} (hf : f_L_net fu x1 uP uD uo = some (rr, yo)) : xHi l κ yL_net cL_net 4 (some .int) [(0, 8, 11, 20)] (xR 3 1 6) [.ref (xAd κ 234), .int x1, .ref (xAd κ 254)] (upA uA 0 (uP, uC, uD, uJ, ur, ut, ud, ug), (uT0, uT1, uT2, uT3, uT4, uT5, uT6, uT7, uT8), (uG0, uG1, uG2), (uM0, uM1, uM2, uM3, uM4), wF, uo, uv) (upA uA 0 (uP, uC, uD, uJ, ur, ut, ud, ug), (uT0, uT1, uT2, uT3, uT4, uT5, uT6, uT7, uT8), (uG0, uG1, uG2), (uM0, uM1, uM2, uM3, uM4), wF, yo, uv) rr := by
  unfold f_L_net at hf
  refine xHi_of pn_L (Nat.le_of_ble_eq_true rfl) ?_
  intro A p e s m args below meth c ls Q hlt hc hT hw hl K
  have hc : xC κ A p s m args meth c cL_net RL 4 (some .int) := hc
  have hx := hc.1.1
  have hb := hc.1.2.1
  have hl : lv_has ls 4 [(0, .ref (xAd κ 234)), (1, .int x1), (2, .ref (xAd κ 254))] := hl
  refine lv_aload_n hx hb dL_net_0 rfl (lv_at hl 2 rfl) ?_
  refine lv_iconst (v := 0) hx hb dL_net_1 (by decide) ?_
  refine lv_aload_n hx hb dL_net_2 rfl (lv_at hl 0 rfl) ?_
  refine lv_iload_n hx hb dL_net_3 rfl (lv_at hl 1 rfl) ?_
  obtain ⟨e1, v2, h3, hf⟩ := xb2_of hf
  refine x_tcalllV (As := [.int x1]) (rest := [.int 0, .ref (xAd κ 254)]) (σ' := (upA uA 0 (uP, uC, uD, uJ, ur, ut, ud, ug), (uT0, uT1, uT2, uT3, uT4, uT5, uT6, uT7, uT8), (uG0, uG1, uG2), (uM0, uM1, uM2, uM3, uM4), wF, uo, uv)) hc hw hl.1 hlt (m_X7_net h3) kL_93 co_234 rfl rfl ⟨rfl, rfl⟩ ⟨Nat.le_of_ble_eq_true rfl, Nat.le_of_ble_eq_true rfl⟩ ⟨Nat.le_of_ble_eq_true rfl, Nat.le_of_ble_eq_true rfl⟩ (Nat.le_of_ble_eq_true rfl) dL_net_4 (fun c4 H locs q ce hw q1 q2 q3 => ?_) (fun c4 H locs hw => ?_)
  · have hf := xif_f c4 hf
    by_cases c6 : e1 = 1
    · subst c6
      have hf := xif_t rfl hf
      refine x_catch (pre := []) (x := (0, 8, 11, 20)) (suf := []) (ec := 1) hc hT rfl (by decide) (List.forall_mem_nil _) (by decide) (by decide) w_classLink_RL_20_java_lang_IndexOutOfBoundsException_ q1 q2 q3 ?_
      refine lv_astore_n (lv' := [(3, .ref q), (0, .ref (xAd κ 234)), (1, .int x1), (2, .ref (xAd κ 254))]) hx hb dL_net_11 rfl hl (by decide) rfl (fun ls hl => ?_)
      refine lv_iconst (v := 1) hx hb dL_net_12 (by decide) ?_
      cases hf
      exact K _ _ _ _ _ _ (by decide) (by decide) dL_net_13 hw
    have hf := xif_f c6 hf
    cases hf
  · have hf := xif_t c4 hf
    obtain ⟨k5, hf⟩ := xk_of hf
    refine x_last (n := 1) (f := uo) (σ' := (upA uA 0 (uP, uC, uD, uJ, ur, ut, ud, ug), (uT0, uT1, uT2, uT3, uT4, uT5, uT6, uT7, uT8), (uG0, uG1, uG2), (uM0, uM1, uM2, uM3, uM4), wF, (vp_updL uo (0 : Int32).toNatClampNeg v2), uv)) hc hw co_254 k5 so_O_0 dL_net_7 (fun H locs hw => ?_)
    refine lv_goto (tgt := 14) hx hb dL_net_8 (by decide) ?_
    refine lv_iconst (v := 0) hx hb dL_net_14 (by decide) ?_
    cases hf
    exact K _ _ _ _ _ _ (by decide) (by decide) dL_net_15 hw
def f_L_growsTo (x1 : Int32) (x2 : Int32) (uD : sDeb) (ur : xF32) (ug : Int32) (uo : xF64) : Option (Int32 × xF64) :=
  xb2 (f_X7_growsTo x1 x2 uD ur ug) fun e1 v2 => (if e1 = 0 then (xk (xin 0 1) (some (0, (vp_updL uo (0 : Int32).toNatClampNeg v2.toInt64)))) else (if e1 = 1 then (some (1, uo)) else (if e1 = 2 then (some (2, uo)) else (if e1 = 5 then (some (3, uo)) else (none)))))
set_option maxHeartbeats 4000000 in
set_option maxRecDepth 100000 in
theorem m_L_growsTo {l : Launch} {κ : xKt} {wF : sRef}  {x1 : Int32} {x2 : Int32} {uA : Nat → sAcc} {uP : sPar} {uC : sCla} {uD : sDeb} {uJ : sJou} {ur : xF32} {ut : xF32} {ud : Int32} {ug : Int32} {uT0 : Int32} {uT1 : xF32} {uT2 : Int32} {uT3 : Int32} {uT4 : Int32} {uT5 : xF32} {uT6 : xF32} {uT7 : xF32} {uT8 : xF32} {uG0 : Int32} {uG1 : xF32} {uG2 : xF32} {uM0 : Int32} {uM1 : Int32} {uM2 : Int32} {uM3 : Int32} {uM4 : Int32} {uo : xF64} {uv : Nat → UInt64} {rr : Int32} {yo : xF64} (hf : f_L_growsTo x1 x2 uD ur ug uo = some (rr, yo)) : xHi l κ yL_growsTo cL_growsTo 5 (some .int) [(0, 10, 13, 20), (0, 10, 17, 13), (0, 10, 21, 51)] (xR 3 1 6) [.ref (xAd κ 234), .int x1, .int x2, .ref (xAd κ 254)] (upA uA 0 (uP, uC, uD, uJ, ur, ut, ud, ug), (uT0, uT1, uT2, uT3, uT4, uT5, uT6, uT7, uT8), (uG0, uG1, uG2), (uM0, uM1, uM2, uM3, uM4), wF, uo, uv) (upA uA 0 (uP, uC, uD, uJ, ur, ut, ud, ug), (uT0, uT1, uT2, uT3, uT4, uT5, uT6, uT7, uT8), (uG0, uG1, uG2), (uM0, uM1, uM2, uM3, uM4), wF, yo, uv) rr := by
  unfold f_L_growsTo at hf
  refine xHi_of pn_L (Nat.le_of_ble_eq_true rfl) ?_
  intro A p e s m args below meth c ls Q hlt hc hT hw hl K
  have hc : xC κ A p s m args meth c cL_growsTo RL 5 (some .int) := hc
  have hx := hc.1.1
  have hb := hc.1.2.1
  have hl : lv_has ls 5 [(0, .ref (xAd κ 234)), (1, .int x1), (2, .int x2), (3, .ref (xAd κ 254))] := hl
  refine lv_aload_n hx hb dL_growsTo_0 rfl (lv_at hl 3 rfl) ?_
  refine lv_iconst (v := 0) hx hb dL_growsTo_1 (by decide) ?_
  refine lv_aload_n hx hb dL_growsTo_2 rfl (lv_at hl 0 rfl) ?_
  refine lv_iload_n hx hb dL_growsTo_3 rfl (lv_at hl 1 rfl) ?_
  refine lv_iload_n hx hb dL_growsTo_4 rfl (lv_at hl 2 rfl) ?_
  obtain ⟨e1, v2, h3, hf⟩ := xb2_of hf
  refine x_tcalliV (As := [.int x1, .int x2]) (rest := [.int 0, .ref (xAd κ 254)]) (σ' := (upA uA 0 (uP, uC, uD, uJ, ur, ut, ud, ug), (uT0, uT1, uT2, uT3, uT4, uT5, uT6, uT7, uT8), (uG0, uG1, uG2), (uM0, uM1, uM2, uM3, uM4), wF, uo, uv)) hc hw hl.1 hlt (m_X7_growsTo h3) kL_96 co_234 rfl rfl ⟨rfl, rfl⟩ ⟨Nat.le_of_ble_eq_true rfl, Nat.le_of_ble_eq_true rfl⟩ ⟨Nat.le_of_ble_eq_true rfl, Nat.le_of_ble_eq_true rfl⟩ (Nat.le_of_ble_eq_true rfl) dL_growsTo_5 (fun c4 H locs q ce hw q1 q2 q3 => ?_) (fun c4 H locs hw => ?_)
  · have hf := xif_f c4 hf
    by_cases c6 : e1 = 1
    · subst c6
      have hf := xif_t rfl hf
      refine x_catch (pre := []) (x := (0, 10, 13, 20)) (suf := [(0, 10, 17, 13), (0, 10, 21, 51)]) (ec := 1) hc hT rfl (by decide) (List.forall_mem_nil _) (by decide) (by decide) w_classLink_RL_20_java_lang_IndexOutOfBoundsException_ q1 q2 q3 ?_
      refine lv_astore (lv' := [(4, .ref q), (0, .ref (xAd κ 234)), (1, .int x1), (2, .int x2), (3, .ref (xAd κ 254))]) hx hb dL_growsTo_13 hl (by decide) rfl (fun ls hl => ?_)
      refine lv_iconst (v := 1) hx hb dL_growsTo_15 (by decide) ?_
      cases hf
      exact K _ _ _ _ _ _ (by decide) (by decide) dL_growsTo_16 hw
    have hf := xif_f c6 hf
    by_cases c7 : e1 = 2
    · subst c7
      have hf := xif_t rfl hf
      refine x_catch (pre := [(0, 10, 13, 20)]) (x := (0, 10, 17, 13)) (suf := [(0, 10, 21, 51)]) (ec := 2) hc hT rfl (by decide) (List.forall_mem_cons.mpr ⟨⟨by decide, "java/lang/IndexOutOfBoundsException", by decide, w_classLink_RL_20_java_lang_IndexOutOfBoundsException_, by decide⟩, List.forall_mem_nil _⟩) (by decide) (by decide) w_classLink_RL_13_java_lang_IllegalArgumentException_ q1 q2 q3 ?_
      refine lv_astore (lv' := [(4, .ref q), (0, .ref (xAd κ 234)), (1, .int x1), (2, .int x2), (3, .ref (xAd κ 254))]) hx hb dL_growsTo_17 hl (by decide) rfl (fun ls hl => ?_)
      refine lv_iconst (v := 2) hx hb dL_growsTo_19 (by decide) ?_
      cases hf
      exact K _ _ _ _ _ _ (by decide) (by decide) dL_growsTo_20 hw
    have hf := xif_f c7 hf
    by_cases c8 : e1 = 5
    · subst c8
      have hf := xif_t rfl hf
      refine x_catch (pre := [(0, 10, 13, 20), (0, 10, 17, 13)]) (x := (0, 10, 21, 51)) (suf := []) (ec := 5) hc hT rfl (by decide) (List.forall_mem_cons.mpr ⟨⟨by decide, "java/lang/IndexOutOfBoundsException", by decide, w_classLink_RL_20_java_lang_IndexOutOfBoundsException_, by decide⟩, List.forall_mem_cons.mpr ⟨⟨by decide, "java/lang/IllegalArgumentException", by decide, w_classLink_RL_13_java_lang_IllegalArgumentException_, by decide⟩, List.forall_mem_nil _⟩⟩) (by decide) (by decide) w_classLink_RL_51_java_util_NoSuchElementException_ q1 q2 q3 ?_
      refine lv_astore (lv' := [(4, .ref q), (0, .ref (xAd κ 234)), (1, .int x1), (2, .int x2), (3, .ref (xAd κ 254))]) hx hb dL_growsTo_21 hl (by decide) rfl (fun ls hl => ?_)
      refine lv_iconst (v := 3) hx hb dL_growsTo_23 (by decide) ?_
      cases hf
      exact K _ _ _ _ _ _ (by decide) (by decide) dL_growsTo_24 hw
    have hf := xif_f c8 hf
    cases hf
  · have hf := xif_t c4 hf
    refine lv_i2l (v := v2.toInt64) hx hb dL_growsTo_8 rfl ?_
    obtain ⟨k5, hf⟩ := xk_of hf
    refine x_last (n := 1) (f := uo) (σ' := (upA uA 0 (uP, uC, uD, uJ, ur, ut, ud, ug), (uT0, uT1, uT2, uT3, uT4, uT5, uT6, uT7, uT8), (uG0, uG1, uG2), (uM0, uM1, uM2, uM3, uM4), wF, (vp_updL uo (0 : Int32).toNatClampNeg v2.toInt64), uv)) hc hw co_254 k5 so_O_0 dL_growsTo_9 (fun H locs hw => ?_)
    refine lv_goto (tgt := 25) hx hb dL_growsTo_10 (by decide) ?_
    refine lv_iconst (v := 0) hx hb dL_growsTo_25 (by decide) ?_
    cases hf
    exact K _ _ _ _ _ _ (by decide) (by decide) dL_growsTo_26 hw
def f_L_pass (fu : Nat) (x1 : Int32) (uA : Nat → sAcc) (uP : sPar) (uC : sCla) (uD : sDeb) (uJ : sJou) (ur : xF32) (ut : xF32) (ud : Int32) (ug : Int32) (uM1 : Int32) (uM2 : Int32) (uM3 : Int32) (uo : xF64) : Option (Int32 × (Nat → sAcc) × sDeb × Int32 × Int32 × Int32 × Int32 × xF64) :=
  xb8 (f_X7_pass fu x1 uA uP uC uD uJ ur ut ud ug uM1 uM2 uM3) fun e1 v2 uA_3 uD_4 ud_5 uM1_6 uM2_7 uM3_8 => (if e1 = 0 then (xk (xin 0 1) (some (0, uA_3, uD_4, ud_5, uM1_6, uM2_7, uM3_8, (vp_updL uo (0 : Int32).toNatClampNeg v2)))) else (if e1 = 2 then (some (1, uA_3, uD_4, ud_5, uM1_6, uM2_7, uM3_8, uo)) else (if e1 = 3 then (some (2, uA_3, uD_4, ud_5, uM1_6, uM2_7, uM3_8, uo)) else (none))))
set_option maxHeartbeats 4000000 in
set_option maxRecDepth 100000 in
theorem m_L_pass {l : Launch} {κ : xKt} {wF : sRef} {fu : Nat} {x1 : Int32} {uA : Nat → sAcc} {uP : sPar} {uC : sCla} {uD : sDeb} {uJ : sJou} {ur : xF32} {ut : xF32} {ud : Int32} {ug : Int32} {uT0 : Int32} {uT1 : xF32} {uT2 : Int32} {uT3 : Int32} {uT4 : Int32} {uT5 : xF32} {uT6 : xF32} {uT7 : xF32} {uT8 : xF32} {uG0 : Int32} {uG1 : xF32} {uG2 : xF32} {uM0 : Int32} {uM1 : Int32} {uM2 : Int32} {uM3 : Int32} {uM4 : Int32} {uo : xF64} {uv : Nat → UInt64} {rr : Int32} {yA : Nat → sAcc} {yD : sDeb} {yd : Int32} {yM1 : Int32} {yM2 : Int32} {yM3 : Int32} {yo : xF64} (hf : f_L_pass fu x1 uA uP uC uD uJ ur ut ud ug uM1 uM2 uM3 uo = some (rr, yA, yD, yd, yM1, yM2, yM3, yo)) : xHi l κ yL_pass cL_pass 4 (some .int) [(0, 8, 11, 13), (0, 8, 14, 15)] (xR 4 1 6) [.ref (xAd κ 234), .int x1, .ref (xAd κ 254)] (upA uA 0 (uP, uC, uD, uJ, ur, ut, ud, ug), (uT0, uT1, uT2, uT3, uT4, uT5, uT6, uT7, uT8), (uG0, uG1, uG2), (uM0, uM1, uM2, uM3, uM4), wF, uo, uv) (upA yA 0 (uP, uC, yD, uJ, ur, ut, yd, ug), (uT0, uT1, uT2, uT3, uT4, uT5, uT6, uT7, uT8), (uG0, uG1, uG2), (uM0, yM1, yM2, yM3, uM4), wF, yo, uv) rr := by
  unfold f_L_pass at hf
  refine xHi_of pn_L (Nat.le_of_ble_eq_true rfl) ?_
  intro A p e s m args below meth c ls Q hlt hc hT hw hl K
  have hc : xC κ A p s m args meth c cL_pass RL 4 (some .int) := hc
  have hx := hc.1.1
  have hb := hc.1.2.1
  have hl : lv_has ls 4 [(0, .ref (xAd κ 234)), (1, .int x1), (2, .ref (xAd κ 254))] := hl
  refine lv_aload_n hx hb dL_pass_0 rfl (lv_at hl 2 rfl) ?_
  refine lv_iconst (v := 0) hx hb dL_pass_1 (by decide) ?_
  refine lv_aload_n hx hb dL_pass_2 rfl (lv_at hl 0 rfl) ?_
  refine lv_iload_n hx hb dL_pass_3 rfl (lv_at hl 1 rfl) ?_
  obtain ⟨e1, v2, uA_3, uD_4, ud_5, uM1_6, uM2_7, uM3_8, h9, hf⟩ := xb8_of hf
  refine x_tcalllV (As := [.int x1]) (rest := [.int 0, .ref (xAd κ 254)]) (σ' := (upA uA_3 0 (uP, uC, uD_4, uJ, ur, ut, ud_5, ug), (uT0, uT1, uT2, uT3, uT4, uT5, uT6, uT7, uT8), (uG0, uG1, uG2), (uM0, uM1_6, uM2_7, uM3_8, uM4), wF, uo, uv)) hc hw hl.1 hlt (m_X7_pass h9) kL_99 co_234 rfl rfl ⟨rfl, rfl⟩ ⟨Nat.le_of_ble_eq_true rfl, Nat.le_of_ble_eq_true rfl⟩ ⟨Nat.le_of_ble_eq_true rfl, Nat.le_of_ble_eq_true rfl⟩ (Nat.le_of_ble_eq_true rfl) dL_pass_4 (fun c10 H locs q ce hw q1 q2 q3 => ?_) (fun c10 H locs hw => ?_)
  · have hf := xif_f c10 hf
    by_cases c12 : e1 = 2
    · subst c12
      have hf := xif_t rfl hf
      refine x_catch (pre := []) (x := (0, 8, 11, 13)) (suf := [(0, 8, 14, 15)]) (ec := 2) hc hT rfl (by decide) (List.forall_mem_nil _) (by decide) (by decide) w_classLink_RL_13_java_lang_IllegalArgumentException_ q1 q2 q3 ?_
      refine lv_astore_n (lv' := [(3, .ref q), (0, .ref (xAd κ 234)), (1, .int x1), (2, .ref (xAd κ 254))]) hx hb dL_pass_11 rfl hl (by decide) rfl (fun ls hl => ?_)
      refine lv_iconst (v := 1) hx hb dL_pass_12 (by decide) ?_
      cases hf
      exact K _ _ _ _ _ _ (by decide) (by decide) dL_pass_13 hw
    have hf := xif_f c12 hf
    by_cases c13 : e1 = 3
    · subst c13
      have hf := xif_t rfl hf
      refine x_catch (pre := [(0, 8, 11, 13)]) (x := (0, 8, 14, 15)) (suf := []) (ec := 3) hc hT rfl (by decide) (List.forall_mem_cons.mpr ⟨⟨by decide, "java/lang/IllegalArgumentException", by decide, w_classLink_RL_13_java_lang_IllegalArgumentException_, by decide⟩, List.forall_mem_nil _⟩) (by decide) (by decide) w_classLink_RL_15_java_lang_IllegalStateException_ q1 q2 q3 ?_
      refine lv_astore_n (lv' := [(3, .ref q), (0, .ref (xAd κ 234)), (1, .int x1), (2, .ref (xAd κ 254))]) hx hb dL_pass_14 rfl hl (by decide) rfl (fun ls hl => ?_)
      refine lv_iconst (v := 2) hx hb dL_pass_15 (by decide) ?_
      cases hf
      exact K _ _ _ _ _ _ (by decide) (by decide) dL_pass_16 hw
    have hf := xif_f c13 hf
    cases hf
  · have hf := xif_t c10 hf
    obtain ⟨k11, hf⟩ := xk_of hf
    refine x_last (n := 1) (f := uo) (σ' := (upA uA_3 0 (uP, uC, uD_4, uJ, ur, ut, ud_5, ug), (uT0, uT1, uT2, uT3, uT4, uT5, uT6, uT7, uT8), (uG0, uG1, uG2), (uM0, uM1_6, uM2_7, uM3_8, uM4), wF, (vp_updL uo (0 : Int32).toNatClampNeg v2), uv)) hc hw co_254 k11 so_O_0 dL_pass_7 (fun H locs hw => ?_)
    refine lv_goto (tgt := 17) hx hb dL_pass_8 (by decide) ?_
    refine lv_iconst (v := 0) hx hb dL_pass_17 (by decide) ?_
    cases hf
    exact K _ _ _ _ _ _ (by decide) (by decide) dL_pass_18 hw
def f_L_goOn (uA : Nat → sAcc) (uP : sPar) (uC : sCla) (uD : sDeb) (uJ : sJou) (ur : xF32) (ut : xF32) (ud : Int32) (ug : Int32) (uM1 : Int32) (uM2 : Int32) (uM3 : Int32) (uo : xF64) : Option (Int32 × (Nat → sAcc) × Int32 × Int32 × Int32 × Int32 × xF64) :=
  xb7 (f_X7_goOn uA uP uC uD uJ ur ut ud ug uM1 uM2 uM3) fun e1 v2 uA_3 ug_4 uM1_5 uM2_6 uM3_7 => (if e1 = 0 then (xk (xin 0 1) (some (0, uA_3, ug_4, uM1_5, uM2_6, uM3_7, (vp_updL uo (0 : Int32).toNatClampNeg v2.toInt64)))) else (if e1 = 3 then (some (1, uA_3, ug_4, uM1_5, uM2_6, uM3_7, uo)) else (none)))
set_option maxHeartbeats 4000000 in
set_option maxRecDepth 100000 in
theorem m_L_goOn {l : Launch} {κ : xKt} {wF : sRef}  {uA : Nat → sAcc} {uP : sPar} {uC : sCla} {uD : sDeb} {uJ : sJou} {ur : xF32} {ut : xF32} {ud : Int32} {ug : Int32} {uT0 : Int32} {uT1 : xF32} {uT2 : Int32} {uT3 : Int32} {uT4 : Int32} {uT5 : xF32} {uT6 : xF32} {uT7 : xF32} {uT8 : xF32} {uG0 : Int32} {uG1 : xF32} {uG2 : xF32} {uM0 : Int32} {uM1 : Int32} {uM2 : Int32} {uM3 : Int32} {uM4 : Int32} {uo : xF64} {uv : Nat → UInt64} {rr : Int32} {yA : Nat → sAcc} {yg : Int32} {yM1 : Int32} {yM2 : Int32} {yM3 : Int32} {yo : xF64} (hf : f_L_goOn uA uP uC uD uJ ur ut ud ug uM1 uM2 uM3 uo = some (rr, yA, yg, yM1, yM2, yM3, yo)) : xHi l κ yL_goOn cL_goOn 3 (some .int) [(0, 8, 11, 15)] (xR 4 1 6) [.ref (xAd κ 234), .ref (xAd κ 254)] (upA uA 0 (uP, uC, uD, uJ, ur, ut, ud, ug), (uT0, uT1, uT2, uT3, uT4, uT5, uT6, uT7, uT8), (uG0, uG1, uG2), (uM0, uM1, uM2, uM3, uM4), wF, uo, uv) (upA yA 0 (uP, uC, uD, uJ, ur, ut, ud, yg), (uT0, uT1, uT2, uT3, uT4, uT5, uT6, uT7, uT8), (uG0, uG1, uG2), (uM0, yM1, yM2, yM3, uM4), wF, yo, uv) rr := by
  unfold f_L_goOn at hf
  refine xHi_of pn_L (Nat.le_of_ble_eq_true rfl) ?_
  intro A p e s m args below meth c ls Q hlt hc hT hw hl K
  have hc : xC κ A p s m args meth c cL_goOn RL 3 (some .int) := hc
  have hx := hc.1.1
  have hb := hc.1.2.1
  have hl : lv_has ls 3 [(0, .ref (xAd κ 234)), (1, .ref (xAd κ 254))] := hl
  refine lv_aload_n hx hb dL_goOn_0 rfl (lv_at hl 1 rfl) ?_
  refine lv_iconst (v := 0) hx hb dL_goOn_1 (by decide) ?_
  refine lv_aload_n hx hb dL_goOn_2 rfl (lv_at hl 0 rfl) ?_
  obtain ⟨e1, v2, uA_3, ug_4, uM1_5, uM2_6, uM3_7, h8, hf⟩ := xb7_of hf
  refine x_tcalliV (As := []) (rest := [.int 0, .ref (xAd κ 254)]) (σ' := (upA uA_3 0 (uP, uC, uD, uJ, ur, ut, ud, ug_4), (uT0, uT1, uT2, uT3, uT4, uT5, uT6, uT7, uT8), (uG0, uG1, uG2), (uM0, uM1_5, uM2_6, uM3_7, uM4), wF, uo, uv)) hc hw hl.1 hlt (m_X7_goOn h8) kL_102 co_234 rfl rfl ⟨rfl, rfl⟩ ⟨Nat.le_of_ble_eq_true rfl, Nat.le_of_ble_eq_true rfl⟩ ⟨Nat.le_of_ble_eq_true rfl, Nat.le_of_ble_eq_true rfl⟩ (Nat.le_of_ble_eq_true rfl) dL_goOn_3 (fun c9 H locs q ce hw q1 q2 q3 => ?_) (fun c9 H locs hw => ?_)
  · have hf := xif_f c9 hf
    by_cases c11 : e1 = 3
    · subst c11
      have hf := xif_t rfl hf
      refine x_catch (pre := []) (x := (0, 8, 11, 15)) (suf := []) (ec := 3) hc hT rfl (by decide) (List.forall_mem_nil _) (by decide) (by decide) w_classLink_RL_15_java_lang_IllegalStateException_ q1 q2 q3 ?_
      refine lv_astore_n (lv' := [(2, .ref q), (0, .ref (xAd κ 234)), (1, .ref (xAd κ 254))]) hx hb dL_goOn_11 rfl hl (by decide) rfl (fun ls hl => ?_)
      refine lv_iconst (v := 1) hx hb dL_goOn_12 (by decide) ?_
      cases hf
      exact K _ _ _ _ _ _ (by decide) (by decide) dL_goOn_13 hw
    have hf := xif_f c11 hf
    cases hf
  · have hf := xif_t c9 hf
    refine lv_i2l (v := v2.toInt64) hx hb dL_goOn_6 rfl ?_
    obtain ⟨k10, hf⟩ := xk_of hf
    refine x_last (n := 1) (f := uo) (σ' := (upA uA_3 0 (uP, uC, uD, uJ, ur, ut, ud, ug_4), (uT0, uT1, uT2, uT3, uT4, uT5, uT6, uT7, uT8), (uG0, uG1, uG2), (uM0, uM1_5, uM2_6, uM3_7, uM4), wF, (vp_updL uo (0 : Int32).toNatClampNeg v2.toInt64), uv)) hc hw co_254 k10 so_O_0 dL_goOn_7 (fun H locs hw => ?_)
    refine lv_goto (tgt := 14) hx hb dL_goOn_8 (by decide) ?_
    refine lv_iconst (v := 0) hx hb dL_goOn_14 (by decide) ?_
    cases hf
    exact K _ _ _ _ _ _ (by decide) (by decide) dL_goOn_15 hw
def f_L_account (fu : Nat) (x1 : Int32) (uP : sPar) (uC : sCla) (uD : sDeb) (ud : Int32) (ug : Int32) (uo : xF64) : Option (Int32 × xF64) :=
  xb2 (f_X7_account fu x1 uP uC uD ud ug) fun e1 v2 => (if e1 = 0 then (xk (xin 0 1) (some (0, (vp_updL uo (0 : Int32).toNatClampNeg v2)))) else (if e1 = 2 then (some (1, uo)) else (none)))
set_option maxHeartbeats 4000000 in
set_option maxRecDepth 100000 in
theorem m_L_account {l : Launch} {κ : xKt} {wF : sRef} {fu : Nat} {x1 : Int32} {uA : Nat → sAcc} {uP : sPar} {uC : sCla} {uD : sDeb} {uJ : sJou} {ur : xF32} {ut : xF32} {ud : Int32} {ug : Int32} {uT0 : Int32} {uT1 : xF32} {uT2 : Int32} {uT3 : Int32} {uT4 : Int32} {uT5 : xF32} {uT6 : xF32} {uT7 : xF32} {uT8 : xF32} {uG0 : Int32} {uG1 : xF32} {uG2 : xF32} {uM0 : Int32} {uM1 : Int32} {uM2 : Int32} {uM3 : Int32} {uM4 : Int32} {uo : xF64} {uv : Nat → UInt64} {rr : Int32} {yo : xF64} (hf : f_L_account fu x1 uP uC uD ud ug uo = some (rr, yo)) : xHi l κ yL_account cL_account 4 (some .int) [(0, 8, 11, 13)] (xR 5 1 6) [.ref (xAd κ 234), .int x1, .ref (xAd κ 254)] (upA uA 0 (uP, uC, uD, uJ, ur, ut, ud, ug), (uT0, uT1, uT2, uT3, uT4, uT5, uT6, uT7, uT8), (uG0, uG1, uG2), (uM0, uM1, uM2, uM3, uM4), wF, uo, uv) (upA uA 0 (uP, uC, uD, uJ, ur, ut, ud, ug), (uT0, uT1, uT2, uT3, uT4, uT5, uT6, uT7, uT8), (uG0, uG1, uG2), (uM0, uM1, uM2, uM3, uM4), wF, yo, uv) rr := by
  unfold f_L_account at hf
  refine xHi_of pn_L (Nat.le_of_ble_eq_true rfl) ?_
  intro A p e s m args below meth c ls Q hlt hc hT hw hl K
  have hc : xC κ A p s m args meth c cL_account RL 4 (some .int) := hc
  have hx := hc.1.1
  have hb := hc.1.2.1
  have hl : lv_has ls 4 [(0, .ref (xAd κ 234)), (1, .int x1), (2, .ref (xAd κ 254))] := hl
  refine lv_aload_n hx hb dL_account_0 rfl (lv_at hl 2 rfl) ?_
  refine lv_iconst (v := 0) hx hb dL_account_1 (by decide) ?_
  refine lv_aload_n hx hb dL_account_2 rfl (lv_at hl 0 rfl) ?_
  refine lv_iload_n hx hb dL_account_3 rfl (lv_at hl 1 rfl) ?_
  obtain ⟨e1, v2, h3, hf⟩ := xb2_of hf
  refine x_tcalllV (As := [.int x1]) (rest := [.int 0, .ref (xAd κ 254)]) (σ' := (upA uA 0 (uP, uC, uD, uJ, ur, ut, ud, ug), (uT0, uT1, uT2, uT3, uT4, uT5, uT6, uT7, uT8), (uG0, uG1, uG2), (uM0, uM1, uM2, uM3, uM4), wF, uo, uv)) hc hw hl.1 hlt (m_X7_account h3) kL_105 co_234 rfl rfl ⟨rfl, rfl⟩ ⟨Nat.le_of_ble_eq_true rfl, Nat.le_of_ble_eq_true rfl⟩ ⟨Nat.le_of_ble_eq_true rfl, Nat.le_of_ble_eq_true rfl⟩ (Nat.le_of_ble_eq_true rfl) dL_account_4 (fun c4 H locs q ce hw q1 q2 q3 => ?_) (fun c4 H locs hw => ?_)
  · have hf := xif_f c4 hf
    by_cases c6 : e1 = 2
    · subst c6
      have hf := xif_t rfl hf
      refine x_catch (pre := []) (x := (0, 8, 11, 13)) (suf := []) (ec := 2) hc hT rfl (by decide) (List.forall_mem_nil _) (by decide) (by decide) w_classLink_RL_13_java_lang_IllegalArgumentException_ q1 q2 q3 ?_
      refine lv_astore_n (lv' := [(3, .ref q), (0, .ref (xAd κ 234)), (1, .int x1), (2, .ref (xAd κ 254))]) hx hb dL_account_11 rfl hl (by decide) rfl (fun ls hl => ?_)
      refine lv_iconst (v := 1) hx hb dL_account_12 (by decide) ?_
      cases hf
      exact K _ _ _ _ _ _ (by decide) (by decide) dL_account_13 hw
    have hf := xif_f c6 hf
    cases hf
  · have hf := xif_t c4 hf
    obtain ⟨k5, hf⟩ := xk_of hf
    refine x_last (n := 1) (f := uo) (σ' := (upA uA 0 (uP, uC, uD, uJ, ur, ut, ud, ug), (uT0, uT1, uT2, uT3, uT4, uT5, uT6, uT7, uT8), (uG0, uG1, uG2), (uM0, uM1, uM2, uM3, uM4), wF, (vp_updL uo (0 : Int32).toNatClampNeg v2), uv)) hc hw co_254 k5 so_O_0 dL_account_7 (fun H locs hw => ?_)
    refine lv_goto (tgt := 14) hx hb dL_account_8 (by decide) ?_
    refine lv_iconst (v := 0) hx hb dL_account_14 (by decide) ?_
    cases hf
    exact K _ _ _ _ _ _ (by decide) (by decide) dL_account_15 hw
def f_L_entry (x1 : Int32) (x2 : Int32) (uJ : sJou) (uo : xF64) : Option (Int32 × xF64) :=
  xb2 (f_X7_entry x1 x2 uJ) fun e1 v2 => (if e1 = 0 then (xk (xin 0 1) (some (0, (vp_updL uo (0 : Int32).toNatClampNeg v2)))) else (if e1 = 5 then (some (1, uo)) else (none)))
set_option maxHeartbeats 4000000 in
set_option maxRecDepth 100000 in
theorem m_L_entry {l : Launch} {κ : xKt} {wF : sRef}  {x1 : Int32} {x2 : Int32} {uA : Nat → sAcc} {uP : sPar} {uC : sCla} {uD : sDeb} {uJ : sJou} {ur : xF32} {ut : xF32} {ud : Int32} {ug : Int32} {uT0 : Int32} {uT1 : xF32} {uT2 : Int32} {uT3 : Int32} {uT4 : Int32} {uT5 : xF32} {uT6 : xF32} {uT7 : xF32} {uT8 : xF32} {uG0 : Int32} {uG1 : xF32} {uG2 : xF32} {uM0 : Int32} {uM1 : Int32} {uM2 : Int32} {uM3 : Int32} {uM4 : Int32} {uo : xF64} {uv : Nat → UInt64} {rr : Int32} {yo : xF64} (hf : f_L_entry x1 x2 uJ uo = some (rr, yo)) : xHi l κ yL_entry cL_entry 5 (some .int) [(0, 9, 12, 51)] (xR 2 1 6) [.ref (xAd κ 234), .int x1, .int x2, .ref (xAd κ 254)] (upA uA 0 (uP, uC, uD, uJ, ur, ut, ud, ug), (uT0, uT1, uT2, uT3, uT4, uT5, uT6, uT7, uT8), (uG0, uG1, uG2), (uM0, uM1, uM2, uM3, uM4), wF, uo, uv) (upA uA 0 (uP, uC, uD, uJ, ur, ut, ud, ug), (uT0, uT1, uT2, uT3, uT4, uT5, uT6, uT7, uT8), (uG0, uG1, uG2), (uM0, uM1, uM2, uM3, uM4), wF, yo, uv) rr := by
  unfold f_L_entry at hf
  refine xHi_of pn_L (Nat.le_of_ble_eq_true rfl) ?_
  intro A p e s m args below meth c ls Q hlt hc hT hw hl K
  have hc : xC κ A p s m args meth c cL_entry RL 5 (some .int) := hc
  have hx := hc.1.1
  have hb := hc.1.2.1
  have hl : lv_has ls 5 [(0, .ref (xAd κ 234)), (1, .int x1), (2, .int x2), (3, .ref (xAd κ 254))] := hl
  refine lv_aload_n hx hb dL_entry_0 rfl (lv_at hl 3 rfl) ?_
  refine lv_iconst (v := 0) hx hb dL_entry_1 (by decide) ?_
  refine lv_aload_n hx hb dL_entry_2 rfl (lv_at hl 0 rfl) ?_
  refine lv_iload_n hx hb dL_entry_3 rfl (lv_at hl 1 rfl) ?_
  refine lv_iload_n hx hb dL_entry_4 rfl (lv_at hl 2 rfl) ?_
  obtain ⟨e1, v2, h3, hf⟩ := xb2_of hf
  refine x_tcalllV (As := [.int x1, .int x2]) (rest := [.int 0, .ref (xAd κ 254)]) (σ' := (upA uA 0 (uP, uC, uD, uJ, ur, ut, ud, ug), (uT0, uT1, uT2, uT3, uT4, uT5, uT6, uT7, uT8), (uG0, uG1, uG2), (uM0, uM1, uM2, uM3, uM4), wF, uo, uv)) hc hw hl.1 hlt (m_X7_entry h3) kL_108 co_234 rfl rfl ⟨rfl, rfl⟩ ⟨Nat.le_of_ble_eq_true rfl, Nat.le_of_ble_eq_true rfl⟩ ⟨Nat.le_of_ble_eq_true rfl, Nat.le_of_ble_eq_true rfl⟩ (Nat.le_of_ble_eq_true rfl) dL_entry_5 (fun c4 H locs q ce hw q1 q2 q3 => ?_) (fun c4 H locs hw => ?_)
  · have hf := xif_f c4 hf
    by_cases c6 : e1 = 5
    · subst c6
      have hf := xif_t rfl hf
      refine x_catch (pre := []) (x := (0, 9, 12, 51)) (suf := []) (ec := 5) hc hT rfl (by decide) (List.forall_mem_nil _) (by decide) (by decide) w_classLink_RL_51_java_util_NoSuchElementException_ q1 q2 q3 ?_
      refine lv_astore (lv' := [(4, .ref q), (0, .ref (xAd κ 234)), (1, .int x1), (2, .int x2), (3, .ref (xAd κ 254))]) hx hb dL_entry_12 hl (by decide) rfl (fun ls hl => ?_)
      refine lv_iconst (v := 1) hx hb dL_entry_14 (by decide) ?_
      cases hf
      exact K _ _ _ _ _ _ (by decide) (by decide) dL_entry_15 hw
    have hf := xif_f c6 hf
    cases hf
  · have hf := xif_t c4 hf
    obtain ⟨k5, hf⟩ := xk_of hf
    refine x_last (n := 1) (f := uo) (σ' := (upA uA 0 (uP, uC, uD, uJ, ur, ut, ud, ug), (uT0, uT1, uT2, uT3, uT4, uT5, uT6, uT7, uT8), (uG0, uG1, uG2), (uM0, uM1, uM2, uM3, uM4), wF, (vp_updL uo (0 : Int32).toNatClampNeg v2), uv)) hc hw co_254 k5 so_O_0 dL_entry_8 (fun H locs hw => ?_)
    refine lv_goto (tgt := 16) hx hb dL_entry_9 (by decide) ?_
    refine lv_iconst (v := 0) hx hb dL_entry_16 (by decide) ?_
    cases hf
    exact K _ _ _ _ _ _ (by decide) (by decide) dL_entry_17 hw
def f_L_quota (fu : Nat) (x1 : Int32) (uP : sPar) (uC : sCla) (uv : Nat → UInt64) : Option (Int32 × (Nat → UInt64)) :=
  xb2 (f_X7_quota fu x1 uP uC) fun e1 v2 => (if e1 = 0 then (xk (xin 0 1) (some (0, (vf_upd uv (0 : Int32).toNatClampNeg v2)))) else (if e1 = 1 then (some (1, uv)) else (if e1 = 6 then (some (2, uv)) else (none))))
set_option maxHeartbeats 4000000 in
set_option maxRecDepth 100000 in
theorem m_L_quota {l : Launch} {κ : xKt} {wF : sRef} {fu : Nat} {x1 : Int32} {uA : Nat → sAcc} {uP : sPar} {uC : sCla} {uD : sDeb} {uJ : sJou} {ur : xF32} {ut : xF32} {ud : Int32} {ug : Int32} {uT0 : Int32} {uT1 : xF32} {uT2 : Int32} {uT3 : Int32} {uT4 : Int32} {uT5 : xF32} {uT6 : xF32} {uT7 : xF32} {uT8 : xF32} {uG0 : Int32} {uG1 : xF32} {uG2 : xF32} {uM0 : Int32} {uM1 : Int32} {uM2 : Int32} {uM3 : Int32} {uM4 : Int32} {uo : xF64} {uv : Nat → UInt64} {rr : Int32} {yv : Nat → UInt64} (hf : f_L_quota fu x1 uP uC uv = some (rr, yv)) : xHi l κ yL_quota cL_quota 4 (some .int) [(0, 8, 11, 20), (0, 8, 14, 116)] (xR 3 1 6) [.ref (xAd κ 234), .int x1, .ref (xAd κ 255)] (upA uA 0 (uP, uC, uD, uJ, ur, ut, ud, ug), (uT0, uT1, uT2, uT3, uT4, uT5, uT6, uT7, uT8), (uG0, uG1, uG2), (uM0, uM1, uM2, uM3, uM4), wF, uo, uv) (upA uA 0 (uP, uC, uD, uJ, ur, ut, ud, ug), (uT0, uT1, uT2, uT3, uT4, uT5, uT6, uT7, uT8), (uG0, uG1, uG2), (uM0, uM1, uM2, uM3, uM4), wF, uo, yv) rr := by
  unfold f_L_quota at hf
  refine xHi_of pn_L (Nat.le_of_ble_eq_true rfl) ?_
  intro A p e s m args below meth c ls Q hlt hc hT hw hl K
  have hc : xC κ A p s m args meth c cL_quota RL 4 (some .int) := hc
  have hx := hc.1.1
  have hb := hc.1.2.1
  have hl : lv_has ls 4 [(0, .ref (xAd κ 234)), (1, .int x1), (2, .ref (xAd κ 255))] := hl
  refine lv_aload_n hx hb dL_quota_0 rfl (lv_at hl 2 rfl) ?_
  refine lv_iconst (v := 0) hx hb dL_quota_1 (by decide) ?_
  refine lv_aload_n hx hb dL_quota_2 rfl (lv_at hl 0 rfl) ?_
  refine lv_iload_n hx hb dL_quota_3 rfl (lv_at hl 1 rfl) ?_
  obtain ⟨e1, v2, h3, hf⟩ := xb2_of hf
  refine x_tcalldV (As := [.int x1]) (rest := [.int 0, .ref (xAd κ 255)]) (σ' := (upA uA 0 (uP, uC, uD, uJ, ur, ut, ud, ug), (uT0, uT1, uT2, uT3, uT4, uT5, uT6, uT7, uT8), (uG0, uG1, uG2), (uM0, uM1, uM2, uM3, uM4), wF, uo, uv)) hc hw hl.1 hlt (m_X7_quota h3) kL_112 co_234 rfl rfl ⟨rfl, rfl⟩ ⟨Nat.le_of_ble_eq_true rfl, Nat.le_of_ble_eq_true rfl⟩ ⟨Nat.le_of_ble_eq_true rfl, Nat.le_of_ble_eq_true rfl⟩ (Nat.le_of_ble_eq_true rfl) dL_quota_4 (fun c4 H locs q ce hw q1 q2 q3 => ?_) (fun c4 H locs hw => ?_)
  · have hf := xif_f c4 hf
    by_cases c6 : e1 = 1
    · subst c6
      have hf := xif_t rfl hf
      refine x_catch (pre := []) (x := (0, 8, 11, 20)) (suf := [(0, 8, 14, 116)]) (ec := 1) hc hT rfl (by decide) (List.forall_mem_nil _) (by decide) (by decide) w_classLink_RL_20_java_lang_IndexOutOfBoundsException_ q1 q2 q3 ?_
      refine lv_astore_n (lv' := [(3, .ref q), (0, .ref (xAd κ 234)), (1, .int x1), (2, .ref (xAd κ 255))]) hx hb dL_quota_11 rfl hl (by decide) rfl (fun ls hl => ?_)
      refine lv_iconst (v := 1) hx hb dL_quota_12 (by decide) ?_
      cases hf
      exact K _ _ _ _ _ _ (by decide) (by decide) dL_quota_13 hw
    have hf := xif_f c6 hf
    by_cases c7 : e1 = 6
    · subst c7
      have hf := xif_t rfl hf
      refine x_catch (pre := [(0, 8, 11, 20)]) (x := (0, 8, 14, 116)) (suf := []) (ec := 6) hc hT rfl (by decide) (List.forall_mem_cons.mpr ⟨⟨by decide, "java/lang/IndexOutOfBoundsException", by decide, w_classLink_RL_20_java_lang_IndexOutOfBoundsException_, by decide⟩, List.forall_mem_nil _⟩) (by decide) (by decide) w_classLink_RL_116_java_lang_ArithmeticException_ q1 q2 q3 ?_
      refine lv_astore_n (lv' := [(3, .ref q), (0, .ref (xAd κ 234)), (1, .int x1), (2, .ref (xAd κ 255))]) hx hb dL_quota_14 rfl hl (by decide) rfl (fun ls hl => ?_)
      refine lv_iconst (v := 2) hx hb dL_quota_15 (by decide) ?_
      cases hf
      exact K _ _ _ _ _ _ (by decide) (by decide) dL_quota_16 hw
    have hf := xif_f c7 hf
    cases hf
  · have hf := xif_t c4 hf
    obtain ⟨k5, hf⟩ := xk_of hf
    refine x_dast (n := 1) (f := uv) (σ' := (upA uA 0 (uP, uC, uD, uJ, ur, ut, ud, ug), (uT0, uT1, uT2, uT3, uT4, uT5, uT6, uT7, uT8), (uG0, uG1, uG2), (uM0, uM1, uM2, uM3, uM4), wF, uo, (vf_upd uv (0 : Int32).toNatClampNeg v2))) hc hw co_255 k5 so_O_1 dL_quota_7 (fun H locs hw => ?_)
    refine lv_goto (tgt := 17) hx hb dL_quota_8 (by decide) ?_
    refine lv_iconst (v := 0) hx hb dL_quota_17 (by decide) ?_
    cases hf
    exact K _ _ _ _ _ _ (by decide) (by decide) dL_quota_18 hw
def f_L_append (x1 : Int32) (uT0 : Int32) (uT1 : xF32) (uo : xF64) : Option (Int32 × Int32 × xF32 × xF64) :=
  xb4 (f_X7_append x1 uT0 uT1) fun e1 v2 uT0_3 uT1_4 => (if e1 = 0 then (xk (xin 0 1) (some (0, uT0_3, uT1_4, (vp_updL uo (0 : Int32).toNatClampNeg v2.toInt64)))) else (if e1 = 2 then (some (1, uT0_3, uT1_4, uo)) else (if e1 = 3 then (some (2, uT0_3, uT1_4, uo)) else (none))))
set_option maxHeartbeats 4000000 in
set_option maxRecDepth 100000 in
theorem m_L_append {l : Launch} {κ : xKt} {wF : sRef}  {x1 : Int32} {uA : Nat → sAcc} {uP : sPar} {uC : sCla} {uD : sDeb} {uJ : sJou} {ur : xF32} {ut : xF32} {ud : Int32} {ug : Int32} {uT0 : Int32} {uT1 : xF32} {uT2 : Int32} {uT3 : Int32} {uT4 : Int32} {uT5 : xF32} {uT6 : xF32} {uT7 : xF32} {uT8 : xF32} {uG0 : Int32} {uG1 : xF32} {uG2 : xF32} {uM0 : Int32} {uM1 : Int32} {uM2 : Int32} {uM3 : Int32} {uM4 : Int32} {uo : xF64} {uv : Nat → UInt64} {rr : Int32} {yT0 : Int32} {yT1 : xF32} {yo : xF64} (hf : f_L_append x1 uT0 uT1 uo = some (rr, yT0, yT1, yo)) : xHi l κ yL_append cL_append 4 (some .int) [(0, 9, 12, 13), (0, 9, 15, 15)] (xR 2 1 6) [.ref (xAd κ 234), .int x1, .ref (xAd κ 254)] (upA uA 0 (uP, uC, uD, uJ, ur, ut, ud, ug), (uT0, uT1, uT2, uT3, uT4, uT5, uT6, uT7, uT8), (uG0, uG1, uG2), (uM0, uM1, uM2, uM3, uM4), wF, uo, uv) (upA uA 0 (uP, uC, uD, uJ, ur, ut, ud, ug), (yT0, yT1, uT2, uT3, uT4, uT5, uT6, uT7, uT8), (uG0, uG1, uG2), (uM0, uM1, uM2, uM3, uM4), wF, yo, uv) rr := by
  unfold f_L_append at hf
  refine xHi_of pn_L (Nat.le_of_ble_eq_true rfl) ?_
  intro A p e s m args below meth c ls Q hlt hc hT hw hl K
  have hc : xC κ A p s m args meth c cL_append RL 4 (some .int) := hc
  have hx := hc.1.1
  have hb := hc.1.2.1
  have hl : lv_has ls 4 [(0, .ref (xAd κ 234)), (1, .int x1), (2, .ref (xAd κ 254))] := hl
  refine lv_aload_n hx hb dL_append_0 rfl (lv_at hl 2 rfl) ?_
  refine lv_iconst (v := 0) hx hb dL_append_1 (by decide) ?_
  refine lv_aload_n hx hb dL_append_2 rfl (lv_at hl 0 rfl) ?_
  refine lv_iload_n hx hb dL_append_3 rfl (lv_at hl 1 rfl) ?_
  obtain ⟨e1, v2, uT0_3, uT1_4, h5, hf⟩ := xb4_of hf
  refine x_tcalliV (As := [.int x1]) (rest := [.int 0, .ref (xAd κ 254)]) (σ' := (upA uA 0 (uP, uC, uD, uJ, ur, ut, ud, ug), (uT0_3, uT1_4, uT2, uT3, uT4, uT5, uT6, uT7, uT8), (uG0, uG1, uG2), (uM0, uM1, uM2, uM3, uM4), wF, uo, uv)) hc hw hl.1 hlt (m_X7_append h5) kL_118 co_234 rfl rfl ⟨rfl, rfl⟩ ⟨Nat.le_of_ble_eq_true rfl, Nat.le_of_ble_eq_true rfl⟩ ⟨Nat.le_of_ble_eq_true rfl, Nat.le_of_ble_eq_true rfl⟩ (Nat.le_of_ble_eq_true rfl) dL_append_4 (fun c6 H locs q ce hw q1 q2 q3 => ?_) (fun c6 H locs hw => ?_)
  · have hf := xif_f c6 hf
    by_cases c8 : e1 = 2
    · subst c8
      have hf := xif_t rfl hf
      refine x_catch (pre := []) (x := (0, 9, 12, 13)) (suf := [(0, 9, 15, 15)]) (ec := 2) hc hT rfl (by decide) (List.forall_mem_nil _) (by decide) (by decide) w_classLink_RL_13_java_lang_IllegalArgumentException_ q1 q2 q3 ?_
      refine lv_astore_n (lv' := [(3, .ref q), (0, .ref (xAd κ 234)), (1, .int x1), (2, .ref (xAd κ 254))]) hx hb dL_append_12 rfl hl (by decide) rfl (fun ls hl => ?_)
      refine lv_iconst (v := 1) hx hb dL_append_13 (by decide) ?_
      cases hf
      exact K _ _ _ _ _ _ (by decide) (by decide) dL_append_14 hw
    have hf := xif_f c8 hf
    by_cases c9 : e1 = 3
    · subst c9
      have hf := xif_t rfl hf
      refine x_catch (pre := [(0, 9, 12, 13)]) (x := (0, 9, 15, 15)) (suf := []) (ec := 3) hc hT rfl (by decide) (List.forall_mem_cons.mpr ⟨⟨by decide, "java/lang/IllegalArgumentException", by decide, w_classLink_RL_13_java_lang_IllegalArgumentException_, by decide⟩, List.forall_mem_nil _⟩) (by decide) (by decide) w_classLink_RL_15_java_lang_IllegalStateException_ q1 q2 q3 ?_
      refine lv_astore_n (lv' := [(3, .ref q), (0, .ref (xAd κ 234)), (1, .int x1), (2, .ref (xAd κ 254))]) hx hb dL_append_15 rfl hl (by decide) rfl (fun ls hl => ?_)
      refine lv_iconst (v := 2) hx hb dL_append_16 (by decide) ?_
      cases hf
      exact K _ _ _ _ _ _ (by decide) (by decide) dL_append_17 hw
    have hf := xif_f c9 hf
    cases hf
  · have hf := xif_t c6 hf
    refine lv_i2l (v := v2.toInt64) hx hb dL_append_7 rfl ?_
    obtain ⟨k7, hf⟩ := xk_of hf
    refine x_last (n := 1) (f := uo) (σ' := (upA uA 0 (uP, uC, uD, uJ, ur, ut, ud, ug), (uT0_3, uT1_4, uT2, uT3, uT4, uT5, uT6, uT7, uT8), (uG0, uG1, uG2), (uM0, uM1, uM2, uM3, uM4), wF, (vp_updL uo (0 : Int32).toNatClampNeg v2.toInt64), uv)) hc hw co_254 k7 so_O_0 dL_append_8 (fun H locs hw => ?_)
    refine lv_goto (tgt := 18) hx hb dL_append_9 (by decide) ?_
    refine lv_iconst (v := 0) hx hb dL_append_18 (by decide) ?_
    cases hf
    exact K _ _ _ _ _ _ (by decide) (by decide) dL_append_19 hw
def f_L_read (fu : Nat) (uA : Nat → sAcc) (uP : sPar) (uC : sCla) (uD : sDeb) (uJ : sJou) (ur : xF32) (ut : xF32) (ud : Int32) (ug : Int32) (uT0 : Int32) (uT1 : xF32) (uT2 : Int32) (uT3 : Int32) (uT4 : Int32) (uT5 : xF32) (uT6 : xF32) (uT7 : xF32) (uT8 : xF32) (uM1 : Int32) (uM2 : Int32) (uM3 : Int32) (uM4 : Int32) (uo : xF64) : Option (Int32 × (Nat → sAcc) × sPar × sCla × sDeb × sJou × xF32 × xF32 × Int32 × Int32 × Int32 × Int32 × Int32 × Int32 × xF32 × xF32 × xF32 × xF32 × Int32 × Int32 × Int32 × Int32 × xF64) :=
  xb23 (f_X7_read fu uA uP uC uD uJ ur ut ud ug uT0 uT1 uT2 uT3 uT4 uT5 uT6 uT7 uT8 uM1 uM2 uM3 uM4) fun e1 v2 uA_3 uP_4 uC_5 uD_6 uJ_7 ur_8 ut_9 ud_10 ug_11 uT0_12 uT2_13 uT3_14 uT4_15 uT5_16 uT6_17 uT7_18 uT8_19 uM1_20 uM2_21 uM3_22 uM4_23 => (if e1 = 0 then (xk (xin 0 1) (some (0, uA_3, uP_4, uC_5, uD_6, uJ_7, ur_8, ut_9, ud_10, ug_11, uT0_12, uT2_13, uT3_14, uT4_15, uT5_16, uT6_17, uT7_18, uT8_19, uM1_20, uM2_21, uM3_22, uM4_23, (vp_updL uo (0 : Int32).toNatClampNeg v2.toInt64)))) else (if e1 = 2 then (some (1, uA_3, uP_4, uC_5, uD_6, uJ_7, ur_8, ut_9, ud_10, ug_11, uT0_12, uT2_13, uT3_14, uT4_15, uT5_16, uT6_17, uT7_18, uT8_19, uM1_20, uM2_21, uM3_22, uM4_23, uo)) else (if e1 = 3 then (some (2, uA_3, uP_4, uC_5, uD_6, uJ_7, ur_8, ut_9, ud_10, ug_11, uT0_12, uT2_13, uT3_14, uT4_15, uT5_16, uT6_17, uT7_18, uT8_19, uM1_20, uM2_21, uM3_22, uM4_23, uo)) else (none))))
set_option maxHeartbeats 4000000 in
set_option maxRecDepth 100000 in
theorem m_L_read {l : Launch} {κ : xKt} {wF : sRef} {fu : Nat} {uA : Nat → sAcc} {uP : sPar} {uC : sCla} {uD : sDeb} {uJ : sJou} {ur : xF32} {ut : xF32} {ud : Int32} {ug : Int32} {uT0 : Int32} {uT1 : xF32} {uT2 : Int32} {uT3 : Int32} {uT4 : Int32} {uT5 : xF32} {uT6 : xF32} {uT7 : xF32} {uT8 : xF32} {uG0 : Int32} {uG1 : xF32} {uG2 : xF32} {uM0 : Int32} {uM1 : Int32} {uM2 : Int32} {uM3 : Int32} {uM4 : Int32} {uo : xF64} {uv : Nat → UInt64} {rr : Int32} {yA : Nat → sAcc} {yP : sPar} {yC : sCla} {yD : sDeb} {yJ : sJou} {yr : xF32} {yt : xF32} {yd : Int32} {yg : Int32} {yT0 : Int32} {yT2 : Int32} {yT3 : Int32} {yT4 : Int32} {yT5 : xF32} {yT6 : xF32} {yT7 : xF32} {yT8 : xF32} {yM1 : Int32} {yM2 : Int32} {yM3 : Int32} {yM4 : Int32} {yo : xF64} (hf : f_L_read fu uA uP uC uD uJ ur ut ud ug uT0 uT1 uT2 uT3 uT4 uT5 uT6 uT7 uT8 uM1 uM2 uM3 uM4 uo = some (rr, yA, yP, yC, yD, yJ, yr, yt, yd, yg, yT0, yT2, yT3, yT4, yT5, yT6, yT7, yT8, yM1, yM2, yM3, yM4, yo)) : xHi l κ yL_read cL_read 3 (some .int) [(0, 8, 11, 13), (0, 8, 14, 15)] (xR 6 1 6) [.ref (xAd κ 234), .ref (xAd κ 254)] (upA uA 0 (uP, uC, uD, uJ, ur, ut, ud, ug), (uT0, uT1, uT2, uT3, uT4, uT5, uT6, uT7, uT8), (uG0, uG1, uG2), (uM0, uM1, uM2, uM3, uM4), wF, uo, uv) (upA yA 0 (yP, yC, yD, yJ, yr, yt, yd, yg), (yT0, uT1, yT2, yT3, yT4, yT5, yT6, yT7, yT8), (uG0, uG1, uG2), (uM0, yM1, yM2, yM3, yM4), wF, yo, uv) rr := by
  unfold f_L_read at hf
  refine xHi_of pn_L (Nat.le_of_ble_eq_true rfl) ?_
  intro A p e s m args below meth c ls Q hlt hc hT hw hl K
  have hc : xC κ A p s m args meth c cL_read RL 3 (some .int) := hc
  have hx := hc.1.1
  have hb := hc.1.2.1
  have hl : lv_has ls 3 [(0, .ref (xAd κ 234)), (1, .ref (xAd κ 254))] := hl
  refine lv_aload_n hx hb dL_read_0 rfl (lv_at hl 1 rfl) ?_
  refine lv_iconst (v := 0) hx hb dL_read_1 (by decide) ?_
  refine lv_aload_n hx hb dL_read_2 rfl (lv_at hl 0 rfl) ?_
  obtain ⟨e1, v2, uA_3, uP_4, uC_5, uD_6, uJ_7, ur_8, ut_9, ud_10, ug_11, uT0_12, uT2_13, uT3_14, uT4_15, uT5_16, uT6_17, uT7_18, uT8_19, uM1_20, uM2_21, uM3_22, uM4_23, h24, hf⟩ := xb23_of hf
  refine x_tcalliV (As := []) (rest := [.int 0, .ref (xAd κ 254)]) (σ' := (upA uA_3 0 (uP_4, uC_5, uD_6, uJ_7, ur_8, ut_9, ud_10, ug_11), (uT0_12, uT1, uT2_13, uT3_14, uT4_15, uT5_16, uT6_17, uT7_18, uT8_19), (uG0, uG1, uG2), (uM0, uM1_20, uM2_21, uM3_22, uM4_23), wF, uo, uv)) hc hw hl.1 hlt (m_X7_read h24) kL_122 co_234 rfl rfl ⟨rfl, rfl⟩ ⟨Nat.le_of_ble_eq_true rfl, Nat.le_of_ble_eq_true rfl⟩ ⟨Nat.le_of_ble_eq_true rfl, Nat.le_of_ble_eq_true rfl⟩ (Nat.le_of_ble_eq_true rfl) dL_read_3 (fun c25 H locs q ce hw q1 q2 q3 => ?_) (fun c25 H locs hw => ?_)
  · have hf := xif_f c25 hf
    by_cases c27 : e1 = 2
    · subst c27
      have hf := xif_t rfl hf
      refine x_catch (pre := []) (x := (0, 8, 11, 13)) (suf := [(0, 8, 14, 15)]) (ec := 2) hc hT rfl (by decide) (List.forall_mem_nil _) (by decide) (by decide) w_classLink_RL_13_java_lang_IllegalArgumentException_ q1 q2 q3 ?_
      refine lv_astore_n (lv' := [(2, .ref q), (0, .ref (xAd κ 234)), (1, .ref (xAd κ 254))]) hx hb dL_read_11 rfl hl (by decide) rfl (fun ls hl => ?_)
      refine lv_iconst (v := 1) hx hb dL_read_12 (by decide) ?_
      cases hf
      exact K _ _ _ _ _ _ (by decide) (by decide) dL_read_13 hw
    have hf := xif_f c27 hf
    by_cases c28 : e1 = 3
    · subst c28
      have hf := xif_t rfl hf
      refine x_catch (pre := [(0, 8, 11, 13)]) (x := (0, 8, 14, 15)) (suf := []) (ec := 3) hc hT rfl (by decide) (List.forall_mem_cons.mpr ⟨⟨by decide, "java/lang/IllegalArgumentException", by decide, w_classLink_RL_13_java_lang_IllegalArgumentException_, by decide⟩, List.forall_mem_nil _⟩) (by decide) (by decide) w_classLink_RL_15_java_lang_IllegalStateException_ q1 q2 q3 ?_
      refine lv_astore_n (lv' := [(2, .ref q), (0, .ref (xAd κ 234)), (1, .ref (xAd κ 254))]) hx hb dL_read_14 rfl hl (by decide) rfl (fun ls hl => ?_)
      refine lv_iconst (v := 2) hx hb dL_read_15 (by decide) ?_
      cases hf
      exact K _ _ _ _ _ _ (by decide) (by decide) dL_read_16 hw
    have hf := xif_f c28 hf
    cases hf
  · have hf := xif_t c25 hf
    refine lv_i2l (v := v2.toInt64) hx hb dL_read_6 rfl ?_
    obtain ⟨k26, hf⟩ := xk_of hf
    refine x_last (n := 1) (f := uo) (σ' := (upA uA_3 0 (uP_4, uC_5, uD_6, uJ_7, ur_8, ut_9, ud_10, ug_11), (uT0_12, uT1, uT2_13, uT3_14, uT4_15, uT5_16, uT6_17, uT7_18, uT8_19), (uG0, uG1, uG2), (uM0, uM1_20, uM2_21, uM3_22, uM4_23), wF, (vp_updL uo (0 : Int32).toNatClampNeg v2.toInt64), uv)) hc hw co_254 k26 so_O_0 dL_read_7 (fun H locs hw => ?_)
    refine lv_goto (tgt := 17) hx hb dL_read_8 (by decide) ?_
    refine lv_iconst (v := 0) hx hb dL_read_17 (by decide) ?_
    cases hf
    exact K _ _ _ _ _ _ (by decide) (by decide) dL_read_18 hw
def f_L_errorPosition (uM4 : Int32) (uo : xF64) : Option (Int32 × xF64) :=
  xb2 (f_X7_errorPosition uM4) fun e1 v2 => (if e1 = 0 then (xk (xin 0 1) (some (0, (vp_updL uo (0 : Int32).toNatClampNeg v2.toInt64)))) else (if e1 = 5 then (some (1, uo)) else (none)))
set_option maxHeartbeats 4000000 in
set_option maxRecDepth 100000 in
theorem m_L_errorPosition {l : Launch} {κ : xKt} {wF : sRef}  {uA : Nat → sAcc} {uP : sPar} {uC : sCla} {uD : sDeb} {uJ : sJou} {ur : xF32} {ut : xF32} {ud : Int32} {ug : Int32} {uT0 : Int32} {uT1 : xF32} {uT2 : Int32} {uT3 : Int32} {uT4 : Int32} {uT5 : xF32} {uT6 : xF32} {uT7 : xF32} {uT8 : xF32} {uG0 : Int32} {uG1 : xF32} {uG2 : xF32} {uM0 : Int32} {uM1 : Int32} {uM2 : Int32} {uM3 : Int32} {uM4 : Int32} {uo : xF64} {uv : Nat → UInt64} {rr : Int32} {yo : xF64} (hf : f_L_errorPosition uM4 uo = some (rr, yo)) : xHi l κ yL_errorPosition cL_errorPosition 3 (some .int) [(0, 8, 11, 51)] (xR 1 1 6) [.ref (xAd κ 234), .ref (xAd κ 254)] (upA uA 0 (uP, uC, uD, uJ, ur, ut, ud, ug), (uT0, uT1, uT2, uT3, uT4, uT5, uT6, uT7, uT8), (uG0, uG1, uG2), (uM0, uM1, uM2, uM3, uM4), wF, uo, uv) (upA uA 0 (uP, uC, uD, uJ, ur, ut, ud, ug), (uT0, uT1, uT2, uT3, uT4, uT5, uT6, uT7, uT8), (uG0, uG1, uG2), (uM0, uM1, uM2, uM3, uM4), wF, yo, uv) rr := by
  unfold f_L_errorPosition at hf
  refine xHi_of pn_L (Nat.le_of_ble_eq_true rfl) ?_
  intro A p e s m args below meth c ls Q hlt hc hT hw hl K
  have hc : xC κ A p s m args meth c cL_errorPosition RL 3 (some .int) := hc
  have hx := hc.1.1
  have hb := hc.1.2.1
  have hl : lv_has ls 3 [(0, .ref (xAd κ 234)), (1, .ref (xAd κ 254))] := hl
  refine lv_aload_n hx hb dL_errorPosition_0 rfl (lv_at hl 1 rfl) ?_
  refine lv_iconst (v := 0) hx hb dL_errorPosition_1 (by decide) ?_
  refine lv_aload_n hx hb dL_errorPosition_2 rfl (lv_at hl 0 rfl) ?_
  obtain ⟨e1, v2, h3, hf⟩ := xb2_of hf
  refine x_tcalliV (As := []) (rest := [.int 0, .ref (xAd κ 254)]) (σ' := (upA uA 0 (uP, uC, uD, uJ, ur, ut, ud, ug), (uT0, uT1, uT2, uT3, uT4, uT5, uT6, uT7, uT8), (uG0, uG1, uG2), (uM0, uM1, uM2, uM3, uM4), wF, uo, uv)) hc hw hl.1 hlt (m_X7_errorPosition h3) kL_125 co_234 rfl rfl ⟨rfl, rfl⟩ ⟨Nat.le_of_ble_eq_true rfl, Nat.le_of_ble_eq_true rfl⟩ ⟨Nat.le_of_ble_eq_true rfl, Nat.le_of_ble_eq_true rfl⟩ (Nat.le_of_ble_eq_true rfl) dL_errorPosition_3 (fun c4 H locs q ce hw q1 q2 q3 => ?_) (fun c4 H locs hw => ?_)
  · have hf := xif_f c4 hf
    by_cases c6 : e1 = 5
    · subst c6
      have hf := xif_t rfl hf
      refine x_catch (pre := []) (x := (0, 8, 11, 51)) (suf := []) (ec := 5) hc hT rfl (by decide) (List.forall_mem_nil _) (by decide) (by decide) w_classLink_RL_51_java_util_NoSuchElementException_ q1 q2 q3 ?_
      refine lv_astore_n (lv' := [(2, .ref q), (0, .ref (xAd κ 234)), (1, .ref (xAd κ 254))]) hx hb dL_errorPosition_11 rfl hl (by decide) rfl (fun ls hl => ?_)
      refine lv_iconst (v := 1) hx hb dL_errorPosition_12 (by decide) ?_
      cases hf
      exact K _ _ _ _ _ _ (by decide) (by decide) dL_errorPosition_13 hw
    have hf := xif_f c6 hf
    cases hf
  · have hf := xif_t c4 hf
    refine lv_i2l (v := v2.toInt64) hx hb dL_errorPosition_6 rfl ?_
    obtain ⟨k5, hf⟩ := xk_of hf
    refine x_last (n := 1) (f := uo) (σ' := (upA uA 0 (uP, uC, uD, uJ, ur, ut, ud, ug), (uT0, uT1, uT2, uT3, uT4, uT5, uT6, uT7, uT8), (uG0, uG1, uG2), (uM0, uM1, uM2, uM3, uM4), wF, (vp_updL uo (0 : Int32).toNatClampNeg v2.toInt64), uv)) hc hw co_254 k5 so_O_0 dL_errorPosition_7 (fun H locs hw => ?_)
    refine lv_goto (tgt := 14) hx hb dL_errorPosition_8 (by decide) ?_
    refine lv_iconst (v := 0) hx hb dL_errorPosition_14 (by decide) ?_
    cases hf
    exact K _ _ _ _ _ _ (by decide) (by decide) dL_errorPosition_15 hw
def f_L_undo (uA : Nat → sAcc) (uP : sPar) (uC : sCla) (uD : sDeb) (uJ : sJou) (ur : xF32) (ut : xF32) (ud : Int32) (ug : Int32) (uM1 : Int32) (uM2 : Int32) (uo : xF64) : Option (Int32 × sPar × sCla × sDeb × sJou × xF32 × xF32 × Int32 × Int32 × Int32 × Int32 × xF64) :=
  xb12 (f_X7_undo uA uP uC uD uJ ur ut ud ug uM1 uM2) fun e1 v2 uP_3 uC_4 uD_5 uJ_6 ur_7 ut_8 ud_9 ug_10 uM1_11 uM2_12 => (if e1 = 0 then (xk (xin 0 1) (some (0, uP_3, uC_4, uD_5, uJ_6, ur_7, ut_8, ud_9, ug_10, uM1_11, uM2_12, (vp_updL uo (0 : Int32).toNatClampNeg v2.toInt64)))) else (if e1 = 5 then (some (1, uP_3, uC_4, uD_5, uJ_6, ur_7, ut_8, ud_9, ug_10, uM1_11, uM2_12, uo)) else (none)))
set_option maxHeartbeats 4000000 in
set_option maxRecDepth 100000 in
theorem m_L_undo {l : Launch} {κ : xKt} {wF : sRef}  {uA : Nat → sAcc} {uP : sPar} {uC : sCla} {uD : sDeb} {uJ : sJou} {ur : xF32} {ut : xF32} {ud : Int32} {ug : Int32} {uT0 : Int32} {uT1 : xF32} {uT2 : Int32} {uT3 : Int32} {uT4 : Int32} {uT5 : xF32} {uT6 : xF32} {uT7 : xF32} {uT8 : xF32} {uG0 : Int32} {uG1 : xF32} {uG2 : xF32} {uM0 : Int32} {uM1 : Int32} {uM2 : Int32} {uM3 : Int32} {uM4 : Int32} {uo : xF64} {uv : Nat → UInt64} {rr : Int32} {yP : sPar} {yC : sCla} {yD : sDeb} {yJ : sJou} {yr : xF32} {yt : xF32} {yd : Int32} {yg : Int32} {yM1 : Int32} {yM2 : Int32} {yo : xF64} (hf : f_L_undo uA uP uC uD uJ ur ut ud ug uM1 uM2 uo = some (rr, yP, yC, yD, yJ, yr, yt, yd, yg, yM1, yM2, yo)) : xHi l κ yL_undo cL_undo 3 (some .int) [(0, 8, 11, 51)] (xR 3 1 6) [.ref (xAd κ 234), .ref (xAd κ 254)] (upA uA 0 (uP, uC, uD, uJ, ur, ut, ud, ug), (uT0, uT1, uT2, uT3, uT4, uT5, uT6, uT7, uT8), (uG0, uG1, uG2), (uM0, uM1, uM2, uM3, uM4), wF, uo, uv) (upA uA 0 (yP, yC, yD, yJ, yr, yt, yd, yg), (uT0, uT1, uT2, uT3, uT4, uT5, uT6, uT7, uT8), (uG0, uG1, uG2), (uM0, yM1, yM2, uM3, uM4), wF, yo, uv) rr := by
  unfold f_L_undo at hf
  refine xHi_of pn_L (Nat.le_of_ble_eq_true rfl) ?_
  intro A p e s m args below meth c ls Q hlt hc hT hw hl K
  have hc : xC κ A p s m args meth c cL_undo RL 3 (some .int) := hc
  have hx := hc.1.1
  have hb := hc.1.2.1
  have hl : lv_has ls 3 [(0, .ref (xAd κ 234)), (1, .ref (xAd κ 254))] := hl
  refine lv_aload_n hx hb dL_undo_0 rfl (lv_at hl 1 rfl) ?_
  refine lv_iconst (v := 0) hx hb dL_undo_1 (by decide) ?_
  refine lv_aload_n hx hb dL_undo_2 rfl (lv_at hl 0 rfl) ?_
  obtain ⟨e1, v2, uP_3, uC_4, uD_5, uJ_6, ur_7, ut_8, ud_9, ug_10, uM1_11, uM2_12, h13, hf⟩ := xb12_of hf
  refine x_tcalliV (As := []) (rest := [.int 0, .ref (xAd κ 254)]) (σ' := (upA uA 0 (uP_3, uC_4, uD_5, uJ_6, ur_7, ut_8, ud_9, ug_10), (uT0, uT1, uT2, uT3, uT4, uT5, uT6, uT7, uT8), (uG0, uG1, uG2), (uM0, uM1_11, uM2_12, uM3, uM4), wF, uo, uv)) hc hw hl.1 hlt (m_X7_undo h13) kL_128 co_234 rfl rfl ⟨rfl, rfl⟩ ⟨Nat.le_of_ble_eq_true rfl, Nat.le_of_ble_eq_true rfl⟩ ⟨Nat.le_of_ble_eq_true rfl, Nat.le_of_ble_eq_true rfl⟩ (Nat.le_of_ble_eq_true rfl) dL_undo_3 (fun c14 H locs q ce hw q1 q2 q3 => ?_) (fun c14 H locs hw => ?_)
  · have hf := xif_f c14 hf
    by_cases c16 : e1 = 5
    · subst c16
      have hf := xif_t rfl hf
      refine x_catch (pre := []) (x := (0, 8, 11, 51)) (suf := []) (ec := 5) hc hT rfl (by decide) (List.forall_mem_nil _) (by decide) (by decide) w_classLink_RL_51_java_util_NoSuchElementException_ q1 q2 q3 ?_
      refine lv_astore_n (lv' := [(2, .ref q), (0, .ref (xAd κ 234)), (1, .ref (xAd κ 254))]) hx hb dL_undo_11 rfl hl (by decide) rfl (fun ls hl => ?_)
      refine lv_iconst (v := 1) hx hb dL_undo_12 (by decide) ?_
      cases hf
      exact K _ _ _ _ _ _ (by decide) (by decide) dL_undo_13 hw
    have hf := xif_f c16 hf
    cases hf
  · have hf := xif_t c14 hf
    refine lv_i2l (v := v2.toInt64) hx hb dL_undo_6 rfl ?_
    obtain ⟨k15, hf⟩ := xk_of hf
    refine x_last (n := 1) (f := uo) (σ' := (upA uA 0 (uP_3, uC_4, uD_5, uJ_6, ur_7, ut_8, ud_9, ug_10), (uT0, uT1, uT2, uT3, uT4, uT5, uT6, uT7, uT8), (uG0, uG1, uG2), (uM0, uM1_11, uM2_12, uM3, uM4), wF, (vp_updL uo (0 : Int32).toNatClampNeg v2.toInt64), uv)) hc hw co_254 k15 so_O_0 dL_undo_7 (fun H locs hw => ?_)
    refine lv_goto (tgt := 14) hx hb dL_undo_8 (by decide) ?_
    refine lv_iconst (v := 0) hx hb dL_undo_14 (by decide) ?_
    cases hf
    exact K _ _ _ _ _ _ (by decide) (by decide) dL_undo_15 hw
def f_L_restore (uA : Nat → sAcc) (uP : sPar) (uC : sCla) (uD : sDeb) (uJ : sJou) (ur : xF32) (ut : xF32) (ud : Int32) (ug : Int32) (uM0 : Int32) (uM2 : Int32) (uo : xF64) : Option (Int32 × sPar × sCla × sDeb × sJou × xF32 × xF32 × Int32 × Int32 × Int32 × xF64) :=
  xb11 (f_X7_restore uA uP uC uD uJ ur ut ud ug uM0 uM2) fun e1 v2 uP_3 uC_4 uD_5 uJ_6 ur_7 ut_8 ud_9 ug_10 uM2_11 => (if e1 = 0 then (xk (xin 0 1) (some (0, uP_3, uC_4, uD_5, uJ_6, ur_7, ut_8, ud_9, ug_10, uM2_11, (vp_updL uo (0 : Int32).toNatClampNeg v2.toInt64)))) else (if e1 = 3 then (some (1, uP_3, uC_4, uD_5, uJ_6, ur_7, ut_8, ud_9, ug_10, uM2_11, uo)) else (none)))
set_option maxHeartbeats 4000000 in
set_option maxRecDepth 100000 in
theorem m_L_restore {l : Launch} {κ : xKt} {wF : sRef}  {uA : Nat → sAcc} {uP : sPar} {uC : sCla} {uD : sDeb} {uJ : sJou} {ur : xF32} {ut : xF32} {ud : Int32} {ug : Int32} {uT0 : Int32} {uT1 : xF32} {uT2 : Int32} {uT3 : Int32} {uT4 : Int32} {uT5 : xF32} {uT6 : xF32} {uT7 : xF32} {uT8 : xF32} {uG0 : Int32} {uG1 : xF32} {uG2 : xF32} {uM0 : Int32} {uM1 : Int32} {uM2 : Int32} {uM3 : Int32} {uM4 : Int32} {uo : xF64} {uv : Nat → UInt64} {rr : Int32} {yP : sPar} {yC : sCla} {yD : sDeb} {yJ : sJou} {yr : xF32} {yt : xF32} {yd : Int32} {yg : Int32} {yM2 : Int32} {yo : xF64} (hf : f_L_restore uA uP uC uD uJ ur ut ud ug uM0 uM2 uo = some (rr, yP, yC, yD, yJ, yr, yt, yd, yg, yM2, yo)) : xHi l κ yL_restore cL_restore 3 (some .int) [(0, 8, 11, 15)] (xR 3 1 6) [.ref (xAd κ 234), .ref (xAd κ 254)] (upA uA 0 (uP, uC, uD, uJ, ur, ut, ud, ug), (uT0, uT1, uT2, uT3, uT4, uT5, uT6, uT7, uT8), (uG0, uG1, uG2), (uM0, uM1, uM2, uM3, uM4), wF, uo, uv) (upA uA 0 (yP, yC, yD, yJ, yr, yt, yd, yg), (uT0, uT1, uT2, uT3, uT4, uT5, uT6, uT7, uT8), (uG0, uG1, uG2), (uM0, uM1, yM2, uM3, uM4), wF, yo, uv) rr := by
  unfold f_L_restore at hf
  refine xHi_of pn_L (Nat.le_of_ble_eq_true rfl) ?_
  intro A p e s m args below meth c ls Q hlt hc hT hw hl K
  have hc : xC κ A p s m args meth c cL_restore RL 3 (some .int) := hc
  have hx := hc.1.1
  have hb := hc.1.2.1
  have hl : lv_has ls 3 [(0, .ref (xAd κ 234)), (1, .ref (xAd κ 254))] := hl
  refine lv_aload_n hx hb dL_restore_0 rfl (lv_at hl 1 rfl) ?_
  refine lv_iconst (v := 0) hx hb dL_restore_1 (by decide) ?_
  refine lv_aload_n hx hb dL_restore_2 rfl (lv_at hl 0 rfl) ?_
  obtain ⟨e1, v2, uP_3, uC_4, uD_5, uJ_6, ur_7, ut_8, ud_9, ug_10, uM2_11, h12, hf⟩ := xb11_of hf
  refine x_tcalliV (As := []) (rest := [.int 0, .ref (xAd κ 254)]) (σ' := (upA uA 0 (uP_3, uC_4, uD_5, uJ_6, ur_7, ut_8, ud_9, ug_10), (uT0, uT1, uT2, uT3, uT4, uT5, uT6, uT7, uT8), (uG0, uG1, uG2), (uM0, uM1, uM2_11, uM3, uM4), wF, uo, uv)) hc hw hl.1 hlt (m_X7_restore h12) kL_131 co_234 rfl rfl ⟨rfl, rfl⟩ ⟨Nat.le_of_ble_eq_true rfl, Nat.le_of_ble_eq_true rfl⟩ ⟨Nat.le_of_ble_eq_true rfl, Nat.le_of_ble_eq_true rfl⟩ (Nat.le_of_ble_eq_true rfl) dL_restore_3 (fun c13 H locs q ce hw q1 q2 q3 => ?_) (fun c13 H locs hw => ?_)
  · have hf := xif_f c13 hf
    by_cases c15 : e1 = 3
    · subst c15
      have hf := xif_t rfl hf
      refine x_catch (pre := []) (x := (0, 8, 11, 15)) (suf := []) (ec := 3) hc hT rfl (by decide) (List.forall_mem_nil _) (by decide) (by decide) w_classLink_RL_15_java_lang_IllegalStateException_ q1 q2 q3 ?_
      refine lv_astore_n (lv' := [(2, .ref q), (0, .ref (xAd κ 234)), (1, .ref (xAd κ 254))]) hx hb dL_restore_11 rfl hl (by decide) rfl (fun ls hl => ?_)
      refine lv_iconst (v := 1) hx hb dL_restore_12 (by decide) ?_
      cases hf
      exact K _ _ _ _ _ _ (by decide) (by decide) dL_restore_13 hw
    have hf := xif_f c15 hf
    cases hf
  · have hf := xif_t c13 hf
    refine lv_i2l (v := v2.toInt64) hx hb dL_restore_6 rfl ?_
    obtain ⟨k14, hf⟩ := xk_of hf
    refine x_last (n := 1) (f := uo) (σ' := (upA uA 0 (uP_3, uC_4, uD_5, uJ_6, ur_7, ut_8, ud_9, ug_10), (uT0, uT1, uT2, uT3, uT4, uT5, uT6, uT7, uT8), (uG0, uG1, uG2), (uM0, uM1, uM2_11, uM3, uM4), wF, (vp_updL uo (0 : Int32).toNatClampNeg v2.toInt64), uv)) hc hw co_254 k14 so_O_0 dL_restore_7 (fun H locs hw => ?_)
    refine lv_goto (tgt := 14) hx hb dL_restore_8 (by decide) ?_
    refine lv_iconst (v := 0) hx hb dL_restore_14 (by decide) ?_
    cases hf
    exact K _ _ _ _ _ _ (by decide) (by decide) dL_restore_15 hw
