-- the search for a ring, told once
def yfst {α : Type} (f : Nat → Option α) : Nat → Nat → Option α
  | 0, _ => none
  | c + 1, p => match f p with
    | some r => some r
    | none => yfst f c (p + 1)
theorem yfst_t {α : Type} {f : Nat → Option α} {c p : Nat} {r : α} (h : f p = some r) : yfst f (c + 1) p = some r := by
  unfold yfst
  rw [h]
theorem yfst_n {α : Type} {f : Nat → Option α} {c p : Nat} (h : f p = none) : yfst f (c + 1) p = yfst f c (p + 1) := by
  rw [yfst, h]
theorem yfst_skip {α : Type} {f : Nat → Option α} : ∀ k c p, (∀ q, p ≤ q → q < p + k → f q = none) → yfst f (k + c) p = yfst f c (p + k)
  | 0, c, p, _ => by rw [Nat.zero_add, Nat.add_zero]
  | k + 1, c, p, h => by
    rw [show k + 1 + c = (k + c) + 1 by omega, yfst_n (h p (by omega) (by omega)), yfst_skip k c (p + 1) (fun q h1 h2 => h q (by omega) (by omega)), show p + 1 + k = p + (k + 1) by omega]
theorem yfst_none {α : Type} {f : Nat → Option α} : ∀ c p, (∀ q, p ≤ q → q < p + c → f q = none) → yfst f c p = none
  | 0, _, _ => rfl
  | c + 1, p, h => by
    rw [yfst_n (h p (by omega) (by omega))]
    exact yfst_none c (p + 1) (fun q h1 h2 => h q (by omega) (by omega))
theorem yfst_tail {α : Type} {f : Nat → Option α} : ∀ c k p, (∀ q, p + c ≤ q → q < p + c + k → f q = none) → yfst f (c + k) p = yfst f c p
  | 0, k, p, h => by
    rw [Nat.zero_add]
    exact yfst_none k p (fun q h1 h2 => h q (by omega) (by omega))
  | c + 1, k, p, h => by
    rw [show c + 1 + k = (c + k) + 1 by omega]
    cases hf : f p with
    | some r => rw [yfst_t hf, yfst_t hf]
    | none =>
      rw [yfst_n hf, yfst_n hf]
      exact yfst_tail c k (p + 1) (fun q h1 h2 => h q (by omega) (by omega))
theorem yfst_some {α : Type} {f : Nat → Option α} {r : α} : ∀ c p, yfst f c p = some r → ∃ q, p ≤ q ∧ q < p + c ∧ f q = some r
  | 0, _, h => by cases h
  | c + 1, p, h => by
    cases hf : f p with
    | some r' =>
      rw [yfst_t hf] at h
      cases h
      exact ⟨p, by omega, by omega, hf⟩
    | none =>
      rw [yfst_n hf] at h
      obtain ⟨q, h1, h2, h3⟩ := yfst_some c (p + 1) h
      exact ⟨q, by omega, by omega, h3⟩
noncomputable def yit {α : Type} (c : Prop) (a b : α) : α := @ite α c (Classical.propDecidable c) a b
theorem yit_t {α : Type} {c : Prop} {a b : α} (h : c) : yit c a b = a := @if_pos c (Classical.propDecidable c) h α a b
theorem yit_f {α : Type} {c : Prop} {a b : α} (h : ¬ c) : yit c a b = b := @if_neg c (Classical.propDecidable c) h α a b
def updN (row : Nat → Nat) (k p : Nat) : Nat → Nat := fun j => if j = k then p else row j
theorem updN_s {row : Nat → Nat} {k p : Nat} : updN row k p k = p := if_pos rfl
theorem updN_n {row : Nat → Nat} {k p j : Nat} (h : j ≠ k) : updN row k p j = row j := if_neg h
def yok (E : Nat → Nat → Bool) (row : Nat → Nat) (len p : Nat) : Prop := row 0 < p ∧ (∀ k, k < len → row k ≠ p) ∧ E (row (len - 1)) p = true
noncomputable def ysr (E : Nat → Nat → Bool) : Nat → Nat → (Nat → Nat) → Option (Nat → Nat)
  | 0, len, row => yit (E (row (len - 1)) (row 0) = true) (some row) none
  | d + 1, len, row => yfst (fun p => yit (yok E row len p) (ysr E d (len + 1) (updN row len p)) none) 6 0
theorem ysr_val {E : Nat → Nat → Bool} : ∀ d len row r, 1 ≤ len → ysr E d len row = some r → (∀ k, k < len → r k = row k) ∧ (∀ k, len ≤ k → k < len + d → r 0 < r k ∧ r k < 6 ∧ E (r (k - 1)) (r k) = true ∧ ∀ j, j < k → r j ≠ r k) ∧ E (r (len + d - 1)) (r 0) = true := by
  intro d
  induction d with
  | zero =>
    intro len row r hl h
    by_cases c : E (row (len - 1)) (row 0) = true
    · rw [ysr, yit_t c] at h
      cases h
      exact ⟨fun _ _ => rfl, fun k h1 h2 => by omega, c⟩
    · rw [ysr, yit_f c] at h
      cases h
  | succ d ih =>
    intro len row r hl h
    rw [ysr] at h
    obtain ⟨q, h1, h2, h3⟩ := yfst_some 6 0 h
    by_cases c : yok E row len q
    · have h4 : ysr E d (len + 1) (updN row len q) = some r := by
        rw [← h3]; exact (yit_t c).symm
      obtain ⟨g1, g2, g3⟩ := ih (len + 1) (updN row len q) r (by omega) h4
      have rl : r len = q := by rw [g1 len (by omega), updN_s]
      have rk : ∀ k, k < len → r k = row k := fun k hk => by rw [g1 k (by omega), updN_n (by omega)]
      refine ⟨rk, fun k hk1 hk2 => ?_, ?_⟩
      · by_cases e : k = len
        · subst e
          obtain ⟨c1, c2, c3⟩ := c
          refine ⟨by rw [rl, rk 0 (by omega)]; exact c1, by omega, by rw [rl, rk (k - 1) (by omega)]; exact c3, fun j hj => by rw [rl, rk j hj]; exact c2 j hj⟩
        · exact g2 k (by omega) (by omega)
      · have : len + 1 + d - 1 = len + (d + 1) - 1 := by omega
        rw [this] at g3
        exact g3
    · have : yit (yok E row len q) (ysr E d (len + 1) (updN row len q)) none = none := yit_f c
      rw [this] at h3
      cases h3
noncomputable def yrg (E : Nat → Nat → Bool) (size : Nat) : Option (Nat → Nat) := yfst (fun p => ysr E (size - 1) 1 (fun _ => p)) 6 0
/-- a ring of so many -/
def yval (E : Nat → Nat → Bool) (size : Nat) (r : Nat → Nat) : Prop := r 0 < 6 ∧ (∀ k, 1 ≤ k → k < size → r 0 < r k ∧ r k < 6 ∧ E (r (k - 1)) (r k) = true ∧ ∀ j, j < k → r j ≠ r k) ∧ E (r (size - 1)) (r 0) = true
theorem ysr_val1 {E : Nat → Nat → Bool} {size p : Nat} (hs : 2 ≤ size) (hp : p < 6) {r : Nat → Nat} (h : ysr E (size - 1) 1 (fun _ => p) = some r) : yval E size r ∧ r 0 = p := by
  obtain ⟨g1, g2, g3⟩ := ysr_val (size - 1) 1 (fun _ => p) r (by omega) h
  have e0 : r 0 = p := g1 0 (by omega)
  refine ⟨⟨by omega, fun k h1 h2 => g2 k h1 (by omega), ?_⟩, e0⟩
  rw [show 1 + (size - 1) - 1 = size - 1 by omega] at g3
  exact g3
theorem yval_few {E : Nat → Nat → Bool} {size : Nat} {r : Nat → Nat} (v : yval E size r) (hs : 2 ≤ size) : r 0 + size ≤ 6 := by
  have h1 := (v.2.1 1 (by omega) (by omega))
  have := y_pig (5 - r 0) (size - 1) (fun i => r (i + 1) - r 0 - 1) (fun i hi => by
    have := v.2.1 (i + 1) (by omega) (by omega)
    show r (i + 1) - r 0 - 1 < 5 - r 0
    omega) (fun i j hij hj => by
    have a := v.2.1 (i + 1) (by omega) (by omega)
    have b := v.2.1 (j + 1) (by omega) (by omega)
    have c := b.2.2.2 (i + 1) (by omega)
    show r (i + 1) - r 0 - 1 ≠ r (j + 1) - r 0 - 1
    omega)
  omega
theorem yval_lt {E : Nat → Nat → Bool} {size : Nat} {r : Nat → Nat} (v : yval E size r) {k : Nat} (hk : k < size) : r k < 6 := by
  by_cases e : k = 0
  · subst e; exact v.1
  · exact (v.2.1 k (by omega) hk).2.1
theorem yval_in {E : Nat → Nat → Bool} {n : Nat} (hE : ∀ a b, a < 6 → b < 6 → E a b = true → a < n ∧ b < n ∧ a ≠ b) {size : Nat} {r : Nat → Nat} (v : yval E size r) (hs : 2 ≤ size) : (∀ k, k < size → r k < n) ∧ size ≤ n := by
  have hk : ∀ k, k < size → r k < n := fun k hk => by
    by_cases e : k = 0
    · subst e
      exact (hE _ _ (yval_lt v (by omega)) v.1 v.2.2).2.1
    · exact (hE _ _ (yval_lt v (by omega)) (yval_lt v hk) (v.2.1 k (by omega) hk).2.2.1).2.1
  refine ⟨hk, y_pig n size r hk (fun i j hij hj => (v.2.1 j (by omega) hj).2.2.2 i hij)⟩
theorem yrg_val {E : Nat → Nat → Bool} {size : Nat} (hs : 2 ≤ size) {r : Nat → Nat} (h : yrg E size = some r) : yval E size r := by
  obtain ⟨q, h1, h2, h3⟩ := yfst_some 6 0 h
  exact (ysr_val1 hs (by omega) h3).1
theorem yrg_cls {E : Nat → Nat → Bool} {size : Nat} (hs : 2 ≤ size) (h6 : size ≤ 6) : yrg E size = yfst (fun p => ysr E (size - 1) 1 (fun _ => p)) (7 - size) 0 := by
  unfold yrg
  rw [show 6 = (7 - size) + (size - 1) by omega]
  refine yfst_tail (7 - size) (size - 1) 0 (fun q h1 h2 => ?_)
  cases hf : ysr E (size - 1) 1 (fun _ => q) with
  | none => rfl
  | some r =>
    obtain ⟨v, e0⟩ := ysr_val1 hs (by omega) hf
    have := yval_few v hs
    omega
theorem yrg_ref {E : Nat → Nat → Bool} {n : Nat} (hn : n ≤ 6) (hE : ∀ a b, a < 6 → b < 6 → E a b = true → a < n ∧ b < n ∧ a ≠ b) {size : Nat} (hs : 2 ≤ size) : yrg E size = yfst (fun p => ysr E (size - 1) 1 (fun _ => p)) n 0 := by
  unfold yrg
  rw [show 6 = n + (6 - n) by omega]
  refine yfst_tail n (6 - n) 0 (fun q h1 h2 => ?_)
  cases hf : ysr E (size - 1) 1 (fun _ => q) with
  | none => rfl
  | some r =>
    obtain ⟨v, e0⟩ := ysr_val1 hs (by omega) hf
    have := (yval_in hE v hs).1 0 (by omega)
    omega
theorem yrg_big {E : Nat → Nat → Bool} {n : Nat} (hE : ∀ a b, a < 6 → b < 6 → E a b = true → a < n ∧ b < n ∧ a ≠ b) {size : Nat} (hs : 2 ≤ size) (hb : n < size) : yrg E size = none := by
  cases hf : yrg E size with
  | none => rfl
  | some r =>
    have := (yval_in hE (yrg_val hs hf) hs).2
    omega
noncomputable def yfr1 (E : Nat → Nat → Bool) (w : Nat) : Option (Nat × (Nat → Nat)) := match yrg E w with
  | some r => some (w, r)
  | none => none
theorem yfr1_n {E : Nat → Nat → Bool} {w : Nat} (h : yrg E w = none) : yfr1 E w = none := by unfold yfr1; rw [h]
theorem yfr1_t {E : Nat → Nat → Bool} {w : Nat} {r : Nat → Nat} (h : yrg E w = some r) : yfr1 E w = some (w, r) := by unfold yfr1; rw [h]
/-- the first ring -/
noncomputable def yfr (E : Nat → Nat → Bool) : Option (Nat × (Nat → Nat)) := yfst (yfr1 E) 5 2
theorem yfr_val {E : Nat → Nat → Bool} {w : Nat} {r : Nat → Nat} (h : yfr E = some (w, r)) : 2 ≤ w ∧ w ≤ 6 ∧ yval E w r := by
  obtain ⟨q, h1, h2, h3⟩ := yfst_some 5 2 h
  cases hf : yrg E q with
  | none =>
    rw [yfr1_n hf] at h3
    cases h3
  | some r' =>
    rw [yfr1_t hf] at h3
    cases h3
    exact ⟨h1, by omega, yrg_val h1 hf⟩
theorem yfr_ref {E : Nat → Nat → Bool} {n : Nat} (hn : n ≤ 6) (hE : ∀ a b, a < 6 → b < 6 → E a b = true → a < n ∧ b < n ∧ a ≠ b) : yfr E = yfst (yfr1 E) (n - 1) 2 := by
  unfold yfr
  by_cases e : n = 0
  · subst e
    exact yfst_none 5 2 (fun q h1 h2 => yfr1_n (yrg_big hE h1 (by omega)))
  · have e5 : (5 : Nat) = (n - 1) + (6 - n) := by omega
    refine Eq.trans (congrArg (fun z => yfst (yfr1 E) z 2) e5) ?_
    exact yfst_tail (n - 1) (6 - n) 2 (fun q h1 h2 => yfr1_n (yrg_big hE (by omega) (by omega)))
-- who owes whom
def yE (D : sDeb) : Nat → Nat → Nat → Bool
  | 0, _, _ => false
  | m + 1, a, b => yE D m a b || decide (D.2.1 m = nI a ∧ D.2.2.1 m = nI b)
theorem yE_s {D : sDeb} {m a b : Nat} : yE D (m + 1) a b = (yE D m a b || decide (D.2.1 m = nI a ∧ D.2.2.1 m = nI b)) := rfl
theorem yE_of {D : sDeb} : ∀ {m a b : Nat}, yE D m a b = true ↔ ∃ k, k < m ∧ D.2.1 k = nI a ∧ D.2.2.1 k = nI b
  | 0, a, b => ⟨(fun h => by cases h), fun ⟨k, hk, _⟩ => absurd hk (Nat.not_lt_zero k)⟩
  | m + 1, a, b => by
    unfold yE
    rw [Bool.or_eq_true, yE_of (m := m), decide_eq_true_eq]
    refine ⟨fun h => ?_, fun h => ?_⟩
    · rcases h with ⟨k, hk, h1⟩ | h1
      · exact ⟨k, by omega, h1⟩
      · exact ⟨m, by omega, h1⟩
    · obtain ⟨k, hk, h1⟩ := h
      by_cases e : k = m
      · subst e; exact .inr h1
      · exact .inl ⟨k, by omega, h1⟩
theorem yE_in {D : sDeb} {n pn : Nat} (hp : pn ≤ 6) (v : VD1 n D pn) : ∀ a b, a < 6 → b < 6 → yE D n a b = true → a < pn ∧ b < pn ∧ a ≠ b := by
  intro a b ha hb h
  obtain ⟨k, hk, h1, h2⟩ := yE_of.mp h
  obtain ⟨c, d, hc, hd, hcd, e1, e2⟩ := v.1 k hk
  rw [h1] at e1
  rw [h2] at e2
  have r1 := (nI_eq (a := a) (b := c) (by omega) (by omega)).mp e1
  have r2 := (nI_eq (a := b) (b := d) (by omega) (by omega)).mp e2
  omega
