-- the good words of the tables
def gW : List Cond := lw_tbl.filter goodWord
theorem gW_of {w : Cond} (h : w ∈ lw_tbl) (g : goodWord w = true) : w ∈ gW := List.mem_filter.mpr ⟨h, g⟩
theorem gW_good {w : Cond} (h : w ∈ gW) : w ∈ lw_tbl ∧ goodWord w = true := List.mem_filter.mp h
theorem tb_sel {w : Cond} (h : w ∈ k2_sels lw_privs) : w ∈ lw_tbl := List.mem_append_left _ h
theorem tb_1 {w : Cond} (h : w ∈ tables_1_1) : w ∈ lw_tbl := List.mem_append_right _ (List.mem_append_left _ h)
theorem tb_2 {w : Cond} (h : w ∈ tables_1_2) : w ∈ lw_tbl := List.mem_append_right _ (List.mem_append_right _ (List.mem_append_left _ h))
theorem tb_3 {w : Cond} (h : w ∈ tables_1_3) : w ∈ lw_tbl := List.mem_append_right _ (List.mem_append_right _ (List.mem_append_right _ (List.mem_append_left _ h)))
theorem tb_4 {w : Cond} (h : w ∈ tables_1_4) : w ∈ lw_tbl := List.mem_append_right _ (List.mem_append_right _ (List.mem_append_right _ (List.mem_append_right _ (List.mem_append_left _ h))))
theorem tb_5 {w : Cond} (h : w ∈ tables_1_5) : w ∈ lw_tbl := List.mem_append_right _ (List.mem_append_right _ (List.mem_append_right _ (List.mem_append_right _ (List.mem_append_right _ (List.mem_append_left _ h)))))
theorem tb_6 {w : Cond} (h : w ∈ tables_1_6) : w ∈ lw_tbl := List.mem_append_right _ (List.mem_append_right _ (List.mem_append_right _ (List.mem_append_right _ (List.mem_append_right _ (List.mem_append_right _ (List.mem_append_left _ h))))))
theorem tb_7 {w : Cond} (h : w ∈ tables_1_7) : w ∈ lw_tbl := List.mem_append_right _ (List.mem_append_right _ (List.mem_append_right _ (List.mem_append_right _ (List.mem_append_right _ (List.mem_append_right _ (List.mem_append_right _ h))))))
abbrev xCls : List vw_C := [(RX0, TX0, 8), (RX1, TX1, 7), (RX2, TX2, 6), (RX3, TX3, 3), (RX4, TX4, 7), (RX5, TX5, 3), (RX6, TX6, 9), (RX7, TX7, 10), (RX8, TX8, 19)]
-- the state
abbrev xF32 : Type := Nat → Int32
abbrev xF64 : Type := Nat → Int64
abbrev sPar : Type := Int32 × xF32 × xF32 × xF64 × xF64 × xF64 × xF64
abbrev sCla : Type := Int32 × xF32 × xF32 × xF32 × xF32 × xF32 × xF32
abbrev sDeb : Type := Int32 × xF32 × xF32 × xF64 × xF64 × xF64
abbrev sJou : Type := Int32 × xF32 × xF64
abbrev sAcc : Type := sPar × sCla × sDeb × sJou × xF32 × xF32 × Int32 × Int32
abbrev sTxt : Type := Int32 × xF32 × Int32 × Int32 × Int32 × xF32 × xF32 × xF32 × xF32
abbrev sRng : Type := Int32 × xF32 × xF32
abbrev sMai : Type := Int32 × Int32 × Int32 × Int32 × Int32
abbrev sRef : Type := Int32 × xF64 × xF64 × xF64 × xF64 × Int32 × Int32 × Int32 × xF32 × Int32 × Int32 × Int64 × xF32 × Int32 × Int32 × Int32 × xF32 × xF32 × Int32
abbrev sOut : Type := xF64 × (Nat → UInt64)
abbrev sW : Type := (Nat → sAcc) × sTxt × sRng × sMai × sRef × sOut
-- the layout: the classes' numbers, the arrays' classes (int, long, char, double, Accounts), the addresses by place, the static row's address
abbrev xKt : Type := va_G × (ClassId × ClassId × ClassId × ClassId × ClassId) × (Nat → Nat) × (Nat × Nat × Nat)
def xcI (κ : xKt) : ClassId := κ.2.1.1
def xcJ (κ : xKt) : ClassId := κ.2.1.2.1
def xcC (κ : xKt) : ClassId := κ.2.1.2.2.1
def xcD (κ : xKt) : ClassId := κ.2.1.2.2.2.1
def xcA (κ : xKt) : ClassId := κ.2.1.2.2.2.2
def xAd (κ : xKt) (k : Nat) : Nat := κ.2.2.1 k
def xTf (κ : xKt) : Nat := κ.2.2.2.1
def xTr (κ : xKt) : Nat := κ.2.2.2.2.1
def xTt (κ : xKt) : Nat := κ.2.2.2.2.2
def xTys (κ : xKt) : List (ClassId × FieldType) := [(xcI κ, .int), (xcJ κ, .long), (xcC κ, .char), (xcD κ, .double), (xcA κ, .object "ArbitrationFees$Accounts")]
-- the first rates and tiers
def xRate0 : Nat → Int32 := upd (upd (upd (upd (fun _ => 0) 0 0) 1 400) 2 600) 3 900
def xTier0 : Nat → Int32 := upd (upd (upd (upd (fun _ => 0) 0 1000) 1 500) 2 250) 3 100
def xTier : Nat → Int32 := fun k => match k with
  | 0 => 0
  | 1 => 1000000
  | 2 => 5000000
  | _ => 20000000
def xAcc (κ : xKt) (b : Nat) (X : sAcc) (j : Nat) : va_E := match j with
  | 0 => .inr (0, [.ref (xAd κ (b + 1)), .ref (xAd κ (b + 8)), .ref (xAd κ (b + 15)), .ref (xAd κ (b + 21)), .ref (xAd κ (b + 24)), .ref (xAd κ (b + 25)), .int X.2.2.2.2.2.2.1, .int X.2.2.2.2.2.2.2])
  | 1 => .inr (4, [.int X.1.1, .ref (xAd κ (b + 2)), .ref (xAd κ (b + 3)), .ref (xAd κ (b + 4)), .ref (xAd κ (b + 5)), .ref (xAd κ (b + 6)), .ref (xAd κ (b + 7))])
  | 2 => .inl (xcI κ, 6, .inl X.1.2.1)
  | 3 => .inl (xcI κ, 6, .inl X.1.2.2.1)
  | 4 => .inl (xcJ κ, 6, .inr (.inl X.1.2.2.2.1))
  | 5 => .inl (xcJ κ, 6, .inr (.inl X.1.2.2.2.2.1))
  | 6 => .inl (xcJ κ, 6, .inr (.inl X.1.2.2.2.2.2.1))
  | 7 => .inl (xcJ κ, 6, .inr (.inl X.1.2.2.2.2.2.2))
  | 8 => .inr (1, [.int X.2.1.1, .ref (xAd κ (b + 9)), .ref (xAd κ (b + 10)), .ref (xAd κ (b + 11)), .ref (xAd κ (b + 12)), .ref (xAd κ (b + 13)), .ref (xAd κ (b + 14))])
  | 9 => .inl (xcI κ, 12, .inl X.2.1.2.1)
  | 10 => .inl (xcI κ, 12, .inl X.2.1.2.2.1)
  | 11 => .inl (xcI κ, 12, .inl X.2.1.2.2.2.1)
  | 12 => .inl (xcI κ, 12, .inl X.2.1.2.2.2.2.1)
  | 13 => .inl (xcI κ, 12, .inl X.2.1.2.2.2.2.2.1)
  | 14 => .inl (xcI κ, 12, .inl X.2.1.2.2.2.2.2.2)
  | 15 => .inr (2, [.int X.2.2.1.1, .ref (xAd κ (b + 16)), .ref (xAd κ (b + 17)), .ref (xAd κ (b + 18)), .ref (xAd κ (b + 19)), .ref (xAd κ (b + 20))])
  | 16 => .inl (xcI κ, 30, .inl X.2.2.1.2.1)
  | 17 => .inl (xcI κ, 30, .inl X.2.2.1.2.2.1)
  | 18 => .inl (xcJ κ, 30, .inr (.inl X.2.2.1.2.2.2.1))
  | 19 => .inl (xcJ κ, 30, .inr (.inl X.2.2.1.2.2.2.2.1))
  | 20 => .inl (xcJ κ, 30, .inr (.inl X.2.2.1.2.2.2.2.2))
  | 21 => .inr (3, [.int X.2.2.2.1.1, .ref (xAd κ (b + 22)), .ref (xAd κ (b + 23))])
  | 22 => .inl (xcI κ, 16, .inl X.2.2.2.1.2.1)
  | 23 => .inl (xcJ κ, 16, .inr (.inl X.2.2.2.1.2.2))
  | 24 => .inl (xcI κ, 4, .inl X.2.2.2.2.1)
  | _ => .inl (xcI κ, 4, .inl X.2.2.2.2.2.1)
def xOth (κ : xKt) (Y : sTxt × sRng × sMai × sRef × sOut) (j : Nat) : va_E := match j with
  | 0 => .inr (7, [.ref (xAd κ (26 * 0)), .ref (xAd κ (26 * 1)), .ref (xAd κ 235), .ref (xAd κ 236), .ref (xAd κ 242), .int Y.2.2.1.1, .int Y.2.2.1.2.1, .int Y.2.2.1.2.2.1, .int Y.2.2.1.2.2.2.1, .int Y.2.2.1.2.2.2.2])
  | 1 => .inl (xcA κ, 7, .inr (.inr (.inr (.inr (fun i => some (xAd κ (26 * (2 + i))))))))
  | 2 => .inr (6, [.int Y.1.1, .ref (xAd κ 237), .int Y.1.2.2.1, .int Y.1.2.2.2.1, .int Y.1.2.2.2.2.1, .ref (xAd κ 238), .ref (xAd κ 239), .ref (xAd κ 240), .ref (xAd κ 241)])
  | 3 => .inl (xcC κ, 70, .inl Y.1.2.1)
  | 4 => .inl (xcI κ, 35, .inl Y.1.2.2.2.2.2.1)
  | 5 => .inl (xcI κ, 35, .inl Y.1.2.2.2.2.2.2.1)
  | 6 => .inl (xcI κ, 35, .inl Y.1.2.2.2.2.2.2.2.1)
  | 7 => .inl (xcI κ, 35, .inl Y.1.2.2.2.2.2.2.2.2)
  | 8 => .inr (5, [.int Y.2.1.1, .ref (xAd κ 243), .ref (xAd κ 244)])
  | 9 => .inl (xcI κ, 6, .inl Y.2.1.2.1)
  | 10 => .inl (xcI κ, 6, .inl Y.2.1.2.2)
  | 11 => .inr (8, [.int Y.2.2.2.1.1, .ref (xAd κ 246), .ref (xAd κ 247), .ref (xAd κ 248), .ref (xAd κ 249), .int Y.2.2.2.1.2.2.2.2.2.1, .int Y.2.2.2.1.2.2.2.2.2.2.1, .int Y.2.2.2.1.2.2.2.2.2.2.2.1, .ref (xAd κ 250), .int Y.2.2.2.1.2.2.2.2.2.2.2.2.2.1, .int Y.2.2.2.1.2.2.2.2.2.2.2.2.2.2.1, .long Y.2.2.2.1.2.2.2.2.2.2.2.2.2.2.2.1, .ref (xAd κ 251), .int Y.2.2.2.1.2.2.2.2.2.2.2.2.2.2.2.2.2.1, .int Y.2.2.2.1.2.2.2.2.2.2.2.2.2.2.2.2.2.2.1, .int Y.2.2.2.1.2.2.2.2.2.2.2.2.2.2.2.2.2.2.2.1, .ref (xAd κ 252), .ref (xAd κ 253), .int Y.2.2.2.1.2.2.2.2.2.2.2.2.2.2.2.2.2.2.2.2.2.2])
  | 12 => .inl (xcJ κ, 304, .inr (.inl Y.2.2.2.1.2.1))
  | 13 => .inl (xcJ κ, 304, .inr (.inl Y.2.2.2.1.2.2.1))
  | 14 => .inl (xcJ κ, 304, .inr (.inl Y.2.2.2.1.2.2.2.1))
  | 15 => .inl (xcJ κ, 1824, .inr (.inl Y.2.2.2.1.2.2.2.2.1))
  | 16 => .inl (xcI κ, 70, .inl Y.2.2.2.1.2.2.2.2.2.2.2.2.1)
  | 17 => .inl (xcI κ, 6, .inl Y.2.2.2.1.2.2.2.2.2.2.2.2.2.2.2.2.1)
  | 18 => .inl (xcI κ, 36, .inl Y.2.2.2.1.2.2.2.2.2.2.2.2.2.2.2.2.2.2.2.2.1)
  | 19 => .inl (xcI κ, 108, .inl Y.2.2.2.1.2.2.2.2.2.2.2.2.2.2.2.2.2.2.2.2.2.1)
  | 20 => .inl (xcJ κ, 1, .inr (.inl Y.2.2.2.2.1))
  | _ => .inl (xcD κ, 1, .inr (.inr (.inr (.inl Y.2.2.2.2.2))))
def xCell (κ : xKt) (σ : sW) (k : Nat) : va_E := if k < 234 then xAcc κ (26 * (k / 26)) (σ.1 (k / 26)) (k % 26) else xOth κ σ.2 (k - 234)
def xWs (κ : xKt) (σ : sW) : va_W := (List.range 256).map (fun k => (xAd κ k, xCell κ σ k))
def xCl (κ : xKt) (σ : sW) (k : Nat) (e : va_E) : Prop := k < 256 ∧ xCell κ σ k = e
def xSet (κ : xKt) (σ : sW) (k : Nat) (e : va_E) (σ' : sW) : Prop := k < 256 ∧ ∀ j, j < 256 → xCell κ σ' j = if j = k then e else xCell κ σ j
def upA (A : Nat → sAcc) (a : Nat) (X : sAcc) : Nat → sAcc := fun b => if b = a then X else A b
theorem upA_s {A : Nat → sAcc} {a : Nat} {X : sAcc} : upA A a X a = X := by simp [upA]
theorem upA_n {A : Nat → sAcc} {a b : Nat} {X : sAcc} (h : b ≠ a) : upA A a X b = A b := by simp [upA, h]
theorem upA_self {A : Nat → sAcc} {a : Nat} : upA A a (A a) = A := by
  funext b
  by_cases h : b = a
  · subst h; exact upA_s
  · exact upA_n h
theorem upA_up {A : Nat → sAcc} {a : Nat} {X Y : sAcc} : upA (upA A a X) a Y = upA A a Y := by
  funext b
  by_cases h : b = a
  · subst h; rw [upA_s, upA_s]
  · rw [upA_n h, upA_n h, upA_n h]
theorem upA_comm {A : Nat → sAcc} {a b : Nat} {X Y : sAcc} (n : a ≠ b) : upA (upA A a X) b Y = upA (upA A b Y) a X := by
  funext c
  by_cases h : c = a
  · subst h; rw [upA_s, upA_n n, upA_s]
  · rw [upA_n h]
    by_cases h2 : c = b
    · subst h2; rw [upA_s, upA_s]
    · rw [upA_n h2, upA_n h2, upA_n h]
theorem x_len (κ : xKt) (σ : sW) : (xWs κ σ).length = 256 := by simp [xWs]
theorem x_at {κ : xKt} {σ : sW} {k : Nat} {e : va_E} (h : xCl κ σ k e) : (xWs κ σ)[k]? = some (xAd κ k, e) := by
  obtain ⟨h1, h2⟩ := h
  simp [xWs, h1, h2]
theorem x_at0 {κ : xKt} {σ : sW} {k : Nat} {q : Nat × va_E} (h : (xWs κ σ)[k]? = some q) : k < 256 ∧ q = (xAd κ k, xCell κ σ k) := by
  have hk : k < 256 := by rw [← x_len κ σ]; exact (List.getElem?_eq_some_iff.mp h).1
  refine ⟨hk, ?_⟩
  rw [x_at ⟨hk, rfl⟩] at h
  exact (Option.some.inj h).symm
theorem x_set {κ : xKt} {σ σ' : sW} {k : Nat} {e : va_E} (h : xSet κ σ k e σ') : (xWs κ σ).set k (xAd κ k, e) = xWs κ σ' := by
  obtain ⟨h1, h2⟩ := h
  apply List.ext_getElem?
  intro j
  by_cases hj : j < 256
  · rw [x_at ⟨hj, rfl⟩, h2 j hj]
    by_cases hjk : j = k
    · subst hjk
      rw [List.getElem?_set_self (by rw [x_len]; exact h1), if_pos rfl]
    · rw [List.getElem?_set_ne (Ne.symm hjk), if_neg hjk, x_at ⟨hj, rfl⟩]
  · rw [List.getElem?_eq_none (by rw [List.length_set, x_len]; omega), List.getElem?_eq_none (by rw [x_len]; omega)]
-- cells of an account, and of the rest
theorem xc_acc {κ : xKt} {A : Nat → sAcc} {a j : Nat} {X : sAcc} {Y : sTxt × sRng × sMai × sRef × sOut} {e : va_E} (ha : a < 9) (hj : j < 26) (he : xAcc κ (26 * a) X j = e) : xCl κ (upA A a X, Y) (26 * a + j) e := by
  refine ⟨by omega, ?_⟩
  have h1 : 26 * a + j < 234 := by omega
  have h2 : (26 * a + j) / 26 = a := by omega
  have h3 : (26 * a + j) % 26 = j := by omega
  unfold xCell
  rw [if_pos h1, h2, h3]
  show xAcc κ (26 * a) (upA A a X a) j = e
  rw [upA_s, he]
theorem xc_accA {κ : xKt} {A : Nat → sAcc} {a j : Nat} {Y : sTxt × sRng × sMai × sRef × sOut} {e : va_E} (ha : a < 9) (hj : j < 26) (he : xAcc κ (26 * a) (A a) j = e) : xCl κ (A, Y) (26 * a + j) e := by
  refine ⟨by omega, ?_⟩
  have h1 : 26 * a + j < 234 := by omega
  have h2 : (26 * a + j) / 26 = a := by omega
  have h3 : (26 * a + j) % 26 = j := by omega
  unfold xCell
  rw [if_pos h1, h2, h3]
  exact he
theorem xc_oth {κ : xKt} {A : Nat → sAcc} {j : Nat} {Y : sTxt × sRng × sMai × sRef × sOut} {e : va_E} (hj : j < 22) (he : xOth κ Y j = e) : xCl κ (A, Y) (234 + j) e := by
  refine ⟨by omega, ?_⟩
  unfold xCell
  rw [if_neg (by omega), Nat.add_sub_cancel_left]
  exact he
theorem xs_acc {κ : xKt} {A : Nat → sAcc} {a j : Nat} {X X' : sAcc} {Y : sTxt × sRng × sMai × sRef × sOut} {e : va_E} (ha : a < 9) (hj : j < 26) (he : xAcc κ (26 * a) X' j = e) (ho : ∀ i, i < 26 → i ≠ j → xAcc κ (26 * a) X' i = xAcc κ (26 * a) X i) : xSet κ (upA A a X, Y) (26 * a + j) e (upA A a X', Y) := by
  refine ⟨by omega, fun i hi => ?_⟩
  by_cases hij : i = 26 * a + j
  · rw [if_pos hij, hij]
    exact (xc_acc ha hj he).2
  · rw [if_neg hij]
    unfold xCell
    by_cases h1 : i < 234
    · rw [if_pos h1, if_pos h1]
      by_cases h2 : i / 26 = a
      · rw [h2]
        show xAcc κ (26 * a) (upA A a X' a) (i % 26) = xAcc κ (26 * a) (upA A a X a) (i % 26)
        rw [upA_s, upA_s]
        exact ho _ (by omega) (by omega)
      · show xAcc κ (26 * (i / 26)) (upA A a X' (i / 26)) (i % 26) = xAcc κ (26 * (i / 26)) (upA A a X (i / 26)) (i % 26)
        rw [upA_n h2, upA_n h2]
    · rw [if_neg h1, if_neg h1]
theorem xs_oth {κ : xKt} {A : Nat → sAcc} {j : Nat} {Y Y' : sTxt × sRng × sMai × sRef × sOut} {e : va_E} (hj : j < 22) (he : xOth κ Y' j = e) (ho : ∀ i, i < 22 → i ≠ j → xOth κ Y' i = xOth κ Y i) : xSet κ (A, Y) (234 + j) e (A, Y') := by
  refine ⟨by omega, fun i hi => ?_⟩
  by_cases hij : i = 234 + j
  · rw [if_pos hij, hij]
    exact (xc_oth hj he).2
  · rw [if_neg hij]
    unfold xCell
    by_cases h1 : i < 234
    · rw [if_pos h1, if_pos h1]
    · rw [if_neg h1, if_neg h1]
      exact ho _ (by omega) (by omega)
