-- the class's state and the reference's
def RP (n : Nat) (P : sPar) (s : xF64) : Prop := n ≤ 6 ∧ P.1 = nI n ∧ s 2 = lN n ∧ (∀ k, k < n → s (14 + k) = (P.2.1 k).toInt64 ∧ s (20 + k) = (P.2.2.1 k).toInt64 ∧ s (26 + k) = P.2.2.2.1 k ∧ s (32 + k) = P.2.2.2.2.1 k ∧ s (38 + k) = P.2.2.2.2.2.1 k ∧ s (44 + k) = P.2.2.2.2.2.2 k) ∧ (∀ k, n ≤ k → k < 6 → s (26 + k) = 0 ∧ s (32 + k) = 0 ∧ s (38 + k) = 0 ∧ s (44 + k) = 0)
def VP (K : Int) (n : Nat) (P : sPar) : Prop := ∀ k, k < n → (P.2.1 k = 0 ∨ P.2.1 k = 1) ∧ (1 ≤ (P.2.2.1 k).toInt ∧ (P.2.2.1 k).toInt ≤ 9) ∧ (0 ≤ (P.2.2.2.1 k).toInt ∧ (P.2.2.2.1 k).toInt ≤ K * 100000006) ∧ (0 ≤ (P.2.2.2.2.1 k).toInt ∧ (P.2.2.2.2.1 k).toInt ≤ K * 100000006) ∧ 0 ≤ (P.2.2.2.2.2.1 k).toInt ∧ 0 ≤ (P.2.2.2.2.2.2 k).toInt ∧ (P.2.2.2.2.2.1 k).toInt + (P.2.2.2.2.2.2 k).toInt ≤ (P.2.2.2.2.1 k).toInt
def RC (n : Nat) (C : sCla) (s : xF64) : Prop := n ≤ 12 ∧ C.1 = nI n ∧ s 3 = lN n ∧ (∀ k, k < n → s (50 + 6 * k) = (C.2.1 k).toInt64 ∧ s (50 + 6 * k + 1) = (C.2.2.1 k).toInt64 ∧ s (50 + 6 * k + 2) = (C.2.2.2.1 k).toInt64 ∧ s (50 + 6 * k + 3) = (C.2.2.2.2.1 k).toInt64 ∧ s (50 + 6 * k + 4) = (C.2.2.2.2.2.1 k).toInt64 ∧ s (50 + 6 * k + 5) = (C.2.2.2.2.2.2 k).toInt64) ∧ (∀ k, n ≤ k → k < 12 → s (50 + 6 * k + 3) = 0 ∧ s (50 + 6 * k + 4) = 0 ∧ s (50 + 6 * k + 5) = 0)
def VC (pn n : Nat) (C : sCla) : Prop := ∀ k, k < n → (∃ a b, a < pn ∧ b < pn ∧ a ≠ b ∧ C.2.1 k = nI a ∧ C.2.2.1 k = nI b) ∧ (1 ≤ (C.2.2.2.1 k).toInt ∧ (C.2.2.2.1 k).toInt ≤ 100000000) ∧ 0 ≤ (C.2.2.2.2.1 k).toInt ∧ 0 ≤ (C.2.2.2.2.2.1 k).toInt ∧ 0 ≤ (C.2.2.2.2.2.2 k).toInt ∧ (C.2.2.2.2.1 k).toInt + (C.2.2.2.2.2.1 k).toInt + (C.2.2.2.2.2.2 k).toInt ≤ (C.2.2.2.1 k).toInt
def RD (n : Nat) (D : sDeb) (s : xF64) : Prop := n ≤ 30 ∧ D.1 = nI n ∧ s 4 = lN n ∧ (∀ k, k < n → s (122 + 5 * k) = (D.2.1 k).toInt64 ∧ s (122 + 5 * k + 1) = (D.2.2.1 k).toInt64 ∧ s (122 + 5 * k + 2) = D.2.2.2.1 k ∧ s (122 + 5 * k + 3) = D.2.2.2.2.1 k ∧ s (122 + 5 * k + 4) = D.2.2.2.2.2 k)
def VD1 (n : Nat) (D : sDeb) (pn : Nat) : Prop := (∀ k, k < n → ∃ a b, a < pn ∧ b < pn ∧ a ≠ b ∧ D.2.1 k = nI a ∧ D.2.2.1 k = nI b) ∧ (∀ i j, i < j → j < n → ¬ (D.2.1 i = D.2.1 j ∧ D.2.2.1 i = D.2.2.1 j))
def VD2 (K : Int) (n : Nat) (D : sDeb) : Prop := ∀ k, k < n → 0 ≤ (D.2.2.2.1 k).toInt ∧ 0 ≤ (D.2.2.2.2.1 k).toInt ∧ 0 < (D.2.2.2.1 k).toInt + (D.2.2.2.2.1 k).toInt ∧ (D.2.2.2.2.1 k).toInt ≤ K * 2000000000000 ∧ 0 ≤ (D.2.2.2.2.2 k).toInt ∧ (D.2.2.2.2.2 k).toInt < 3600000
def VD3 (K : Int) (n : Nat) (D : sDeb) (P : sPar) : Prop := ∀ k, k < n → (D.2.2.2.1 k).toInt ≤ (P.2.2.2.2.1 (D.2.1 k).toNatClampNeg).toInt + K * 100000000
def RJ (n : Nat) (J : sJou) (s : xF64) : Prop := n ≤ 16 ∧ J.1 = nI n ∧ s 5 = lN n ∧ (∀ k, k < n → s (272 + 2 * k) = (J.2.1 k).toInt64 ∧ s (272 + 2 * k + 1) = J.2.2 k)
def R0 (dn gn : Nat) (r t : xF32) (d g : Int32) (s : xF64) : Prop := dn ≤ 3650 ∧ gn ≤ 3 ∧ d = nI dn ∧ g = nI gn ∧ s 0 = lN dn ∧ s 1 = lN gn ∧ (∀ k, k < 4 → s (6 + k) = (r k).toInt64 ∧ s (10 + k) = (t k).toInt64 ∧ 0 ≤ (r k).toInt ∧ (r k).toInt ≤ 2000 ∧ 0 ≤ (t k).toInt ∧ (t k).toInt ≤ 2000)
/-- an account and its array, after K commands -/
def RA (K : Int) (X : sAcc) (s : xF64) : Prop := ∃ n c m j dn gn, RP n X.1 s ∧ VP K n X.1 ∧ RC c X.2.1 s ∧ VC n c X.2.1 ∧ RD m X.2.2.1 s ∧ VD1 m X.2.2.1 n ∧ VD2 K m X.2.2.1 ∧ VD3 K m X.2.2.1 X.1 ∧ RJ j X.2.2.2.1 s ∧ R0 dn gn X.2.2.2.2.1 X.2.2.2.2.2.1 X.2.2.2.2.2.2.1 X.2.2.2.2.2.2.2 s
-- more commands: wider bounds
theorem VP.mono {K L : Int} {n : Nat} {P : sPar} (h : VP K n P) (hl : K ≤ L) : VP L n P := fun k hk => by
  obtain ⟨h1, h2, h3, h4, h5⟩ := h k hk
  exact ⟨h1, h2, by omega, by omega, h5⟩
theorem VD2.mono {K L : Int} {n : Nat} {D : sDeb} (h : VD2 K n D) (hl : K ≤ L) : VD2 L n D := fun k hk => by
  have := h k hk
  omega
theorem VD3.mono {K L : Int} {n : Nat} {D : sDeb} {P : sPar} (h : VD3 K n D P) (hl : K ≤ L) : VD3 L n D P := fun k hk => by
  have := h k hk
  omega
theorem RA.mono {K L : Int} {X : sAcc} {s : xF64} (h : RA K X s) (hl : K ≤ L) : RA L X s := by
  obtain ⟨n, c, m, j, dn, gn, h1, h2, h3, h4, h5, h6, h7, h8, h9⟩ := h
  exact ⟨n, c, m, j, dn, gn, h1, h2.mono hl, h3, h4, h5, h6, h7.mono hl, h8.mono hl, h9⟩
-- what doesn't touch a group
theorem RP.frame {n : Nat} {P : sPar} {s t : xF64} (h : RP n P s) (hf : ∀ k, (k = 2 ∨ (14 ≤ k ∧ k < 50)) → t k = s k) : RP n P t := by
  obtain ⟨h1, h2, h3, h4, h5⟩ := h
  refine ⟨h1, h2, by rw [hf _ (by omega)]; exact h3, fun k hk => ?_, fun k hk hk2 => ?_⟩
  · rw [hf _ (by omega), hf _ (by omega), hf _ (by omega), hf _ (by omega), hf _ (by omega), hf _ (by omega)]; exact h4 k hk
  · rw [hf _ (by omega), hf _ (by omega), hf _ (by omega), hf _ (by omega)]; exact h5 k hk hk2
theorem RC.frame {n : Nat} {C : sCla} {s t : xF64} (h : RC n C s) (hf : ∀ k, (k = 3 ∨ (50 ≤ k ∧ k < 122)) → t k = s k) : RC n C t := by
  obtain ⟨h1, h2, h3, h4, h5⟩ := h
  refine ⟨h1, h2, by rw [hf _ (by omega)]; exact h3, fun k hk => ?_, fun k hk hk2 => ?_⟩
  · rw [hf _ (by omega), hf _ (by omega), hf _ (by omega), hf _ (by omega), hf _ (by omega), hf _ (by omega)]; exact h4 k hk
  · rw [hf _ (by omega), hf _ (by omega), hf _ (by omega)]; exact h5 k hk hk2
theorem RD.frame {n : Nat} {D : sDeb} {s t : xF64} (h : RD n D s) (hf : ∀ k, (k = 4 ∨ (122 ≤ k ∧ k < 272)) → t k = s k) : RD n D t := by
  obtain ⟨h1, h2, h3, h4⟩ := h
  refine ⟨h1, h2, by rw [hf _ (by omega)]; exact h3, fun k hk => ?_⟩
  rw [hf _ (by omega), hf _ (by omega), hf _ (by omega), hf _ (by omega), hf _ (by omega)]; exact h4 k hk
theorem RJ.frame {n : Nat} {J : sJou} {s t : xF64} (h : RJ n J s) (hf : ∀ k, (k = 5 ∨ (272 ≤ k ∧ k < 304)) → t k = s k) : RJ n J t := by
  obtain ⟨h1, h2, h3, h4⟩ := h
  refine ⟨h1, h2, by rw [hf _ (by omega)]; exact h3, fun k hk => ?_⟩
  rw [hf _ (by omega), hf _ (by omega)]; exact h4 k hk
theorem R0.frame {dn gn : Nat} {r t : xF32} {d g : Int32} {s u : xF64} (h : R0 dn gn r t d g s) (hf : ∀ k, (k < 2 ∨ (6 ≤ k ∧ k < 14)) → u k = s k) : R0 dn gn r t d g u := by
  obtain ⟨h1, h2, h3, h4, h5, h6, h7⟩ := h
  refine ⟨h1, h2, h3, h4, by rw [hf _ (by omega)]; exact h5, by rw [hf _ (by omega)]; exact h6, fun k hk => ?_⟩
  rw [hf _ (by omega), hf _ (by omega)]; exact h7 k hk
theorem RA.frame {K : Int} {X : sAcc} {s t : xF64} (h : RA K X s) (hf : ∀ k, k < 304 → t k = s k) : RA K X t := by
  obtain ⟨n, c, m, j, dn, gn, h1, h2, h3, h4, h5, h6, h7, h8, h9, h10⟩ := h
  exact ⟨n, c, m, j, dn, gn, h1.frame (fun k hk => hf k (by omega)), h2, h3.frame (fun k hk => hf k (by omega)), h4, h5.frame (fun k hk => hf k (by omega)), h6, h7, h8, h9.frame (fun k hk => hf k (by omega)), h10.frame (fun k hk => hf k (by omega))⟩
-- 'is there such a one'
theorem y_has (x : Int32) {c : Nat} (hc : c < 2 ^ 31) : ∃ b, (if x < 0 then some 0 else if nI c ≤ x then some 0 else some 1) = some b ∧ (xb1 (f_X8_in x 0 (nI c - 1)) fun v => xk (xisb v) (some v)) = some b ∧ (b = 0 ∨ (b = 1 ∧ ∃ i, i < c ∧ x = nI i)) := by
  have e : (nI c - 1).toInt = (c : Int) - 1 := by
    have h1 : (nI c).toInt = (c : Int) := nI_toInt hc
    have h2 : (1 : Int32).toInt = 1 := rfl
    rw [y_sub (by rw [h1, h2]; omega) (by rw [h1, h2]; omega), h1, h2]
  rcases pk_ix x hc with h | h | ⟨j, hj, rfl⟩
  · refine ⟨0, by rw [if_pos h], ?_, .inl rfl⟩
    rw [y_xb1 (show f_X8_in x 0 (nI c - 1) = some 0 from if_pos h)]; rfl
  · refine ⟨0, ?_, ?_, .inl rfl⟩
    · by_cases h0 : x < 0
      · rw [if_pos h0]
      · rw [if_neg h0, if_pos h]
    · have h2 : nI c - 1 < x := by
        rw [y_lt32, e]
        have := (y_le32 _ _).mp h
        rw [nI_toInt hc] at this
        omega
      rw [y_xb1 (show f_X8_in x 0 (nI c - 1) = some 0 by
        unfold f_X8_in
        by_cases h0 : x < 0
        · rw [if_pos h0]
        · rw [if_neg h0, if_pos h2])]; rfl
  · have h0 : ¬ nI j < 0 := nI_pos (by omega)
    have h1 : ¬ nI c ≤ nI j := nI_ge hj hc
    have h2 : ¬ nI c - 1 < nI j := by
      rw [y_lt32, e, nI_toInt (by omega)]
      omega
    refine ⟨1, by rw [if_neg h0, if_neg h1], ?_, .inr ⟨rfl, j, hj, rfl⟩⟩
    rw [y_xb1 (show f_X8_in (nI j) 0 (nI c - 1) = some 1 by unfold f_X8_in; rw [if_neg h0, if_neg h2])]; rfl
