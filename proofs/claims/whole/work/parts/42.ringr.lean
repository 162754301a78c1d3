-- the reference's search
theorem h_new0 {fu place : Nat} {x2 : Int32} {ring : xF32} (hpl : place ≤ 6) : ∀ l i m, i + l = place → l < m → f_X8_isNew_19 fu ring m (nI place) x2 0 (nI i) = some 0 := by
  intro l
  induction l with
  | zero =>
    intro i m hi hm
    obtain ⟨m, rfl⟩ : ∃ m', m = m' + 1 := ⟨m - 1, by omega⟩
    have hi' : i = place := by omega
    subst hi'
    simp (disch := omega) only [f_X8_isNew_19, y_self, if_true, y_isb0, xk_t]
  | succ l ih =>
    intro i m hi hm
    obtain ⟨m, rfl⟩ : ∃ m', m = m' + 1 := ⟨m - 1, by omega⟩
    rw [← ih (i + 1) m (by omega) (by omega)]
    simp (disch := omega) only [f_X8_isNew_19, y_nge, if_false, if_true, nI_1]
theorem h_new1 {fu place p : Nat} {ring : xF32} {row : Nat → Nat} (hpl : place ≤ 6) (hr : ∀ k, k < place → ring k = nI (row k) ∧ row k < 6) (hp : p < 6) : ∀ l i m, i + l = place → l < m → (f_X8_isNew_19 fu ring m (nI place) (nI p) 1 (nI i) = some 1 ∧ ∀ k, i ≤ k → k < place → row k ≠ p) ∨ (f_X8_isNew_19 fu ring m (nI place) (nI p) 1 (nI i) = some 0 ∧ ∃ k, i ≤ k ∧ k < place ∧ row k = p) := by
  intro l
  induction l with
  | zero =>
    intro i m hi hm
    obtain ⟨m, rfl⟩ : ∃ m', m = m' + 1 := ⟨m - 1, by omega⟩
    have hi' : i = place := by omega
    subst hi'
    refine .inl ⟨?_, fun k h1 h2 => by omega⟩
    simp (disch := omega) only [f_X8_isNew_19, y_self, if_true, y_isb1, xk_t]
  | succ l ih =>
    intro i m hi hm
    obtain ⟨m, rfl⟩ : ∃ m', m = m' + 1 := ⟨m - 1, by omega⟩
    obtain ⟨r1, r2⟩ := hr i (by omega)
    by_cases e : row i = p
    · refine .inr ⟨?_, i, by omega, by omega, e⟩
      rw [← h_new0 (fu := fu) (x2 := nI p) (ring := ring) hpl l (i + 1) m (by omega) (by omega)]
      simp (disch := omega) only [f_X8_isNew_19, y_nge, if_false, y_10, y_in, xk_t, y_cl, r1, e, if_true, nI_1]
    · have es : f_X8_isNew_19 fu ring (m + 1) (nI place) (nI p) 1 (nI i) = f_X8_isNew_19 fu ring m (nI place) (nI p) 1 (nI (i + 1)) := by
        simp (disch := omega) only [f_X8_isNew_19, y_nge, if_false, y_10, y_in, xk_t, y_cl, r1, y_ne e, nI_1]
      rw [es]
      rcases ih (i + 1) m (by omega) (by omega) with ⟨g1, g2⟩ | ⟨g1, k, g2, g3, g4⟩
      · refine .inl ⟨g1, fun k h1 h2 => ?_⟩
        by_cases e2 : k = i
        · subst e2; exact e
        · exact g2 k (by omega) h2
      · exact .inr ⟨g1, k, by omega, g3, g4⟩
theorem h_new {fu place p : Nat} (hfu : 40 < fu) {ring : xF32} {row : Nat → Nat} (h1 : 1 ≤ place) (hpl : place ≤ 6) (hr : ∀ k, k < place → ring k = nI (row k) ∧ row k < 6) (hp : p < 6) : (f_X8_isNew fu (nI place) (nI p) ring = some 1 ∧ row 0 < p ∧ ∀ k, k < place → row k ≠ p) ∨ (f_X8_isNew fu (nI place) (nI p) ring = some 0 ∧ ¬ (row 0 < p ∧ ∀ k, k < place → row k ≠ p)) := by
  obtain ⟨r1, r2⟩ := hr 0 (by omega)
  by_cases c : row 0 < p
  · have es : f_X8_isNew fu (nI place) (nI p) ring = f_X8_isNew_19 fu ring fu (nI place) (nI p) 1 (nI 0) := by
      rw [f_X8_isNew, y_xk y_in0, y_cl0, r1, if_neg (nI_ge c (by omega))]
      rfl
    rw [es]
    rcases h_new1 (fu := fu) hpl hr hp place 0 fu (by omega) (by omega) with ⟨g1, g2⟩ | ⟨g1, k, g2, g3, g4⟩
    · exact .inl ⟨g1, c, fun k hk => g2 k (by omega) hk⟩
    · exact .inr ⟨g1, fun q => q.2 k g3 g4⟩
  · have es : f_X8_isNew fu (nI place) (nI p) ring = f_X8_isNew_19 fu ring fu (nI place) (nI p) 0 (nI 0) := by
      rw [f_X8_isNew, y_xk y_in0, y_cl0, r1, if_pos (nI_le (by omega) (by omega))]
      rfl
    rw [es]
    exact .inr ⟨h_new0 hpl place 0 fu (by omega) (by omega), fun q => c q.1⟩
/-- what the reference's search stands on -/
def HO (fu : Nat) (E : Nat → Nat → Bool) (n : Nat) (s : xF64) : Prop := n ≤ 6 ∧ f_X8_parties s = some (nI n) ∧ (∀ a b, a < 6 → b < 6 → ∃ w, f_X8_owedBy fu (nI a) (nI b) s = some w ∧ (w ≤ 0 ↔ ¬ E a b = true)) ∧ (∀ a b, a < 6 → b < 6 → E a b = true → a < n ∧ b < n ∧ a ≠ b)
theorem h_next {fu n : Nat} (hfu : 40 < fu) {E : Nat → Nat → Bool} {s : xF64} (hO : HO fu E n s) {place : Nat} {ring : xF32} {row : Nat → Nat} (h1 : 1 ≤ place) (hpl : place ≤ 6) (hr : ∀ k, k < place → ring k = nI (row k) ∧ row k < 6) : ∀ l b m, b + l = n → l < m → (f_X8_nextAt_4 fu s ring m (nI place) (nI b) = some (-1) ∧ ∀ q, b ≤ q → q < n → ¬ yok E row place q) ∨ ∃ p, b ≤ p ∧ p < n ∧ f_X8_nextAt_4 fu s ring m (nI place) (nI b) = some (nI p) ∧ yok E row place p ∧ ∀ q, b ≤ q → q < p → ¬ yok E row place q := by
  obtain ⟨hn, hp, ho, hin⟩ := hO
  intro l
  induction l with
  | zero =>
    intro b m hb hm
    obtain ⟨m, rfl⟩ : ∃ m', m = m' + 1 := ⟨m - 1, by omega⟩
    have hb' : b = n := by omega
    subst hb'
    refine .inl ⟨?_, fun q h1 h2 => by omega⟩
    simp (disch := omega) only [f_X8_nextAt_4, hp, xb1_s, y_self, if_true]
  | succ l ih =>
    intro b m hb hm
    obtain ⟨m, rfl⟩ : ∃ m', m = m' + 1 := ⟨m - 1, by omega⟩
    obtain ⟨a1, a2⟩ := hr (place - 1) (by omega)
    obtain ⟨w, w1, w2⟩ := ho (row (place - 1)) b a2 (by omega)
    have hstep : ¬ yok E row place b → f_X8_nextAt_4 fu s ring (m + 1) (nI place) (nI b) = f_X8_nextAt_4 fu s ring m (nI place) (nI (b + 1)) := fun nok => by
      rcases h_new (p := b) hfu h1 hpl hr (by omega) with ⟨g1, g2, g3⟩ | ⟨g1, g2⟩
      · have hw : w ≤ 0 := w2.mpr (fun q => nok ⟨g2, g3, q⟩)
        simp (disch := omega) only [f_X8_nextAt_4, hp, xb1_s, y_nge, if_false, y_ne0, g1, y_10, y_m1, y_in, xk_t, y_cl, a1, w1, hw, if_true, nI_1]
      · simp (disch := omega) only [f_X8_nextAt_4, hp, xb1_s, y_nge, if_false, y_ne0, g1, if_true, nI_1]
    by_cases ok : yok E row place b
    · refine .inr ⟨b, by omega, by omega, ?_, ok, fun q h1 h2 => by omega⟩
      obtain ⟨o1, o2, o3⟩ := ok
      rcases h_new (p := b) hfu h1 hpl hr (by omega) with ⟨g1, g2, g3⟩ | ⟨g1, g2⟩
      · have hw : ¬ w ≤ 0 := fun q => w2.mp q o3
        simp (disch := omega) only [f_X8_nextAt_4, hp, xb1_s, y_nge, if_false, y_ne0, g1, y_10, y_m1, y_in, xk_t, y_cl, a1, w1, hw]
      · exact absurd ⟨o1, o2⟩ g2
    · rw [hstep ok]
      rcases ih (b + 1) m (by omega) (by omega) with ⟨g1, g2⟩ | ⟨p, g1, g2, g3, g4, g5⟩
      · refine .inl ⟨g1, fun q h1 h2 => ?_⟩
        by_cases e : q = b
        · subst e; exact ok
        · exact g2 q (by omega) h2
      · refine .inr ⟨p, by omega, g2, g3, g4, fun q h1 h2 => ?_⟩
        by_cases e : q = b
        · subst e; exact ok
        · exact g5 q (by omega) h2
def tB : Nat → Nat
  | 0 => 0
  | d + 1 => 6 * (1 + tB d) + 1
/-- one candidate tried: it leads to a ring, or back -/
def HD (fu : Nat) (E : Nat → Nat → Bool) (s : xF64) (size d place : Nat) (row : Nat → Nat) : Prop := ∀ (p : Nat) (ring : xF32) (bh : Int32), p < 6 → yok E row place p → (∀ k, k < place → ring k = nI (row k) ∧ row k < 6) → f_X8_nextAt fu (nI place) bh s ring = some (nI p) →
  (ysr E d (place + 1) (updN row place p) = none ∧ ∃ cost ring', cost ≤ tB d ∧ (∀ k, k < place → ring' k = nI (row k)) ∧ ∀ m, f_X8_hasRing_4 fu s (m + cost + 1) (nI size) (nI place) bh ring = f_X8_hasRing_4 fu s m (nI size) (nI place) (nI p) ring') ∨ ∃ r cost ring', ysr E d (place + 1) (updN row place p) = some r ∧ cost ≤ tB d ∧ (∀ k, k < size → ring' k = nI (r k)) ∧ ∀ m, f_X8_hasRing_4 fu s (m + cost + 1) (nI size) (nI place) bh ring = some (1, ring')
theorem y_m1' {n : Nat} (h : 1 ≤ n) : nI n + (-1) = nI (n - 1) := by
  have := pk_m1 (n - 1)
  rw [show n - 1 + 1 = n by omega] at this
  exact this
theorem h_inner {fu n : Nat} (hfu : 40 < fu) {E : Nat → Nat → Bool} {s : xF64} (hO : HO fu E n s) {size d place : Nat} {row : Nat → Nat} (h1 : 1 ≤ place) (hpl : place + (d + 1) = size) (h6 : size ≤ 6) (H : HD fu E s size d place row) : ∀ l b ring bh, b + l = 6 → bh + 1 = nI b → (∀ k, k < place → ring k = nI (row k) ∧ row k < 6) →
  (yfst (fun p => yit (yok E row place p) (ysr E d (place + 1) (updN row place p)) none) l b = none ∧ ∃ cost ring', cost ≤ l * (1 + tB d) + 1 ∧ (∀ k, k < place → ring' k = nI (row k)) ∧ ∀ m, f_X8_hasRing_4 fu s (m + cost) (nI size) (nI place) bh ring = f_X8_hasRing_4 fu s m (nI size) (nI (place - 1)) (nI (row (place - 1))) ring') ∨ ∃ r cost ring', yfst (fun p => yit (yok E row place p) (ysr E d (place + 1) (updN row place p)) none) l b = some r ∧ cost ≤ l * (1 + tB d) + 1 ∧ (∀ k, k < size → ring' k = nI (r k)) ∧ ∀ m, f_X8_hasRing_4 fu s (m + cost) (nI size) (nI place) bh ring = some (1, ring') := by
  have hn := hO.1
  intro l
  induction l using Nat.strongRecOn with
  | ind l ih =>
    intro b ring bh hb hbh hr
    have hno : ∀ q, n ≤ q → q < 6 → ¬ yok E row place q := fun q h2 h3 ok => by
      have := (hO.2.2.2 _ _ (hr (place - 1) (by omega)).2 h3 ok.2.2).2.1
      omega
    have hnext : (f_X8_nextAt fu (nI place) bh s ring = some (-1) ∧ ∀ q, b ≤ q → q < 6 → ¬ yok E row place q) ∨ ∃ p, b ≤ p ∧ p < 6 ∧ f_X8_nextAt fu (nI place) bh s ring = some (nI p) ∧ yok E row place p ∧ ∀ q, b ≤ q → q < p → ¬ yok E row place q := by
      have e0 : f_X8_nextAt fu (nI place) bh s ring = f_X8_nextAt_4 fu s ring fu (nI place) (nI b) := by rw [f_X8_nextAt, hbh]
      rw [e0]
      by_cases c : b ≤ n
      · rcases h_next hfu hO h1 (by omega) hr (n - b) b fu (by omega) (by omega) with ⟨g1, g2⟩ | ⟨p, g1, g2, g3, g4, g5⟩
        · refine .inl ⟨g1, fun q h2 h3 => ?_⟩
          by_cases c2 : q < n
          · exact g2 q h2 c2
          · exact hno q (by omega) h3
        · exact .inr ⟨p, g1, by omega, g3, g4, g5⟩
      · refine .inl ⟨?_, fun q h2 h3 => hno q (by omega) h3⟩
        obtain ⟨m, rfl⟩ : ∃ m', fu = m' + 1 := ⟨fu - 1, by omega⟩
        simp (disch := omega) only [f_X8_nextAt_4, hO.2.1, xb1_s, y_le_t, if_true]
    obtain ⟨a1, a2⟩ := hr (place - 1) (by omega)
    have hpos : ¬ nI place < 0 := nI_pos (by omega)
    rcases hnext with ⟨g1, g2⟩ | ⟨p, g1, g2, g3, g4, g5⟩
    · refine .inl ⟨yfst_none l b (fun q h2 h3 => yit_f (g2 q h2 (by omega))), 1, ring, by omega, fun k hk => (hr k hk).1, fun m => ?_⟩
      have hpos' : ¬ nI (place - 1) < 0 := nI_pos (by omega)
      simp (disch := omega) only [f_X8_hasRing_4, hpos, if_false, g1, xb1_s, if_true, y_m1', hpos', y_in, xk_t, y_cl, a1]
    · have esk : yfst (fun p => yit (yok E row place p) (ysr E d (place + 1) (updN row place p)) none) l b = yfst (fun p => yit (yok E row place p) (ysr E d (place + 1) (updN row place p)) none) (6 - (p + 1) + 1) p := by
        rw [show l = (p - b) + (6 - (p + 1) + 1) by omega, yfst_skip (p - b) (6 - (p + 1) + 1) b (fun q h2 h3 => yit_f (g5 q h2 (by omega))), show b + (p - b) = p by omega]
      have hmul : (6 - (p + 1)) * (1 + tB d) + (1 + tB d) ≤ l * (1 + tB d) := by
        rw [← Nat.succ_mul]
        exact Nat.mul_le_mul_right _ (by omega)
      rw [esk]
      rcases H p ring bh g2 g4 hr g3 with ⟨k1, c1, ring1, k2, k3, k4⟩ | ⟨r, c1, ring1, k1, k2, k3, k4⟩
      · have hf : (fun p => yit (yok E row place p) (ysr E d (place + 1) (updN row place p)) none) p = none := by
          show yit _ _ _ = none
          rw [yit_t g4, k1]
        rw [yfst_n hf]
        have hr1 : ∀ k, k < place → ring1 k = nI (row k) ∧ row k < 6 := fun k hk => ⟨k3 k hk, (hr k hk).2⟩
        rcases ih (6 - (p + 1)) (by omega) (p + 1) ring1 (nI p) (by omega) (nI_1 p) hr1 with ⟨e1, c2, ring2, e2, e3, e4⟩ | ⟨r, c2, ring2, e1, e2, e3, e4⟩
        · refine .inl ⟨e1, c2 + c1 + 1, ring2, by omega, e3, fun m => ?_⟩
          rw [show m + (c2 + c1 + 1) = (m + c2) + c1 + 1 by omega, k4, e4]
        · refine .inr ⟨r, c2 + c1 + 1, ring2, e1, by omega, e3, fun m => ?_⟩
          rw [show m + (c2 + c1 + 1) = (m + c2) + c1 + 1 by omega, k4, e4]
      · have hf : (fun p => yit (yok E row place p) (ysr E d (place + 1) (updN row place p)) none) p = some r := by
          show yit _ _ _ = some r
          rw [yit_t g4, k1]
        refine .inr ⟨r, c1 + 1, ring1, yfst_t hf, by omega, k3, fun m => ?_⟩
        rw [show m + (c1 + 1) = m + c1 + 1 by omega, k4]
theorem y_nm1' {p : Nat} (h : p < 2 ^ 31) : ¬ nI p = -1 := fun q => by
  have := y_nm1 h
  rw [q] at this
  simp at this
theorem h_loop {fu n : Nat} (hfu : 40 < fu) {E : Nat → Nat → Bool} {s : xF64} (hO : HO fu E n s) {size : Nat} (h6 : size ≤ 6) : ∀ d place row, 1 ≤ place → place + (d + 1) = size → HD fu E s size d place row := by
  intro d
  induction d with
  | zero =>
    intro place row h1 hpl p ring bh hp ok hr hnx
    have hpos : ¬ nI place < 0 := nI_pos (by omega)
    have hpn : ¬ nI p = -1 := y_nm1' (by omega)
    have hsz : nI (place + 1) = nI size := by rw [show place + 1 = size by omega]
    obtain ⟨b1, b2⟩ := hr 0 (by omega)
    obtain ⟨w, w1, w2⟩ := hO.2.2.1 p (row 0) hp b2
    have eu : upd ring place (nI p) 0 = nI (row 0) := by rw [pk_un (by omega)]; exact b1
    have ep : updN row place p (place + 1 - 1) = p := by rw [Nat.add_sub_cancel, updN_s]
    have e0 : updN row place p 0 = row 0 := updN_n (by omega)
    by_cases c : E p (row 0) = true
    · have hw : ¬ w ≤ 0 := fun q => w2.mp q c
      refine .inr ⟨updN row place p, 0, upd ring place (nI p), ?_, by omega, fun k hk => ?_, fun m => ?_⟩
      · rw [ysr, ep, e0, yit_t c]
      · by_cases e : k = place
        · subst e; rw [pk_us, updN_s]
        · rw [pk_un e, updN_n e]; exact (hr k (by omega)).1
      · simp (disch := omega) only [f_X8_hasRing_4, hpos, if_false, hnx, xb1_s, hpn, y_in, xk_t, y_cl, nI_1, hsz, if_true, y_in0, y_cl0, eu, w1, hw]
    · have hw : w ≤ 0 := w2.mpr c
      refine .inl ⟨by rw [ysr, ep, e0, yit_f c], 0, upd ring place (nI p), by omega, fun k hk => by rw [pk_un (by omega)]; exact (hr k hk).1, fun m => ?_⟩
      have em : nI size + -1 = nI place := by rw [y_m1' (by omega), show size - 1 = place by omega]
      simp (disch := omega) only [f_X8_hasRing_4, hpos, if_false, hnx, xb1_s, hpn, y_in, xk_t, y_cl, nI_1, hsz, if_true, y_in0, y_cl0, eu, w1, hw, em]
  | succ d ih =>
    intro place row h1 hpl p ring bh hp ok hr hnx
    have hpos : ¬ nI place < 0 := nI_pos (by omega)
    have hpn : ¬ nI p = -1 := y_nm1' (by omega)
    have hsz : (nI (place + 1) = nI size) = False := y_ne (by omega) (by omega) (by omega)
    have hr2 : ∀ k, k < place + 1 → upd ring place (nI p) k = nI (updN row place p k) ∧ updN row place p k < 6 := fun k hk => by
      by_cases e : k = place
      · subst e
        rw [pk_us, updN_s]
        exact ⟨rfl, hp⟩
      · rw [pk_un e, updN_n e]
        exact hr k (by omega)
    have hst : ∀ m, f_X8_hasRing_4 fu s (m + 1) (nI size) (nI place) bh ring = f_X8_hasRing_4 fu s m (nI size) (nI (place + 1)) (-1) (upd ring place (nI p)) := fun m => by
      simp (disch := omega) only [f_X8_hasRing_4, hpos, if_false, hnx, xb1_s, hpn, y_in, xk_t, y_cl, nI_1, hsz]
    have hz : (-1 : Int32) + 1 = nI 0 := by decide
    have hs : ysr E (d + 1) (place + 1) (updN row place p) = yfst (fun q => yit (yok E (updN row place p) (place + 1) q) (ysr E d (place + 1 + 1) (updN (updN row place p) (place + 1) q)) none) 6 0 := by rw [ysr]
    rcases h_inner hfu hO (by omega) (by omega) h6 (ih (place + 1) (updN row place p) (by omega) (by omega)) 6 0 (upd ring place (nI p)) (-1) (by omega) hz hr2 with ⟨e1, c, ring', e2, e3, e4⟩ | ⟨r, c, ring', e1, e2, e3, e4⟩
    · refine .inl ⟨by rw [hs]; exact e1, c, ring', e2, fun k hk => by rw [e3 k (by omega), updN_n (by omega)], fun m => ?_⟩
      rw [hst, e4, Nat.add_sub_cancel, updN_s]
    · refine .inr ⟨r, c, ring', by rw [hs]; exact e1, e2, e3, fun m => ?_⟩
      rw [hst, e4]
theorem h_top {fu n : Nat} (hfu : 40 < fu) {E : Nat → Nat → Bool} {s : xF64} (hO : HO fu E n s) {d : Nat} (h6 : d + 2 ≤ 6) : ∀ l b ring bh, b + l = n → bh + 1 = nI b →
  (yfst (fun p => ysr E (d + 1) 1 (fun _ => p)) l b = none ∧ ∃ cost ring', cost ≤ l * (1 + tB (d + 1)) + 2 ∧ ∀ m, f_X8_hasRing_4 fu s (m + cost) (nI (d + 2)) 0 bh ring = some (0, ring')) ∨ ∃ r cost ring', yfst (fun p => ysr E (d + 1) 1 (fun _ => p)) l b = some r ∧ cost ≤ l * (1 + tB (d + 1)) + 2 ∧ (∀ k, k < d + 2 → ring' k = nI (r k)) ∧ ∀ m, f_X8_hasRing_4 fu s (m + cost) (nI (d + 2)) 0 bh ring = some (1, ring') := by
  have hn := hO.1
  have hn0 : ¬ (0 : Int32) < 0 := by decide
  intro l
  induction l with
  | zero =>
    intro b ring bh hb hbh
    have hb' : b = n := by omega
    subst hb'
    have hnx : f_X8_nextAt fu 0 bh s ring = some (-1) := by
      obtain ⟨m, hm⟩ : ∃ m', fu = m' + 1 := ⟨fu - 1, by omega⟩
      rw [f_X8_nextAt, hbh]
      have : f_X8_nextAt_4 fu s ring (m + 1) 0 (nI b) = some (-1) := by
        simp (disch := omega) only [f_X8_nextAt_4, hO.2.1, xb1_s, y_self, if_true]
      rw [← hm] at this
      exact this
    refine .inl ⟨rfl, 2, ring, by omega, fun m => ?_⟩
    have hm1 : (0 : Int32) + -1 < 0 := by decide
    have e1 : f_X8_hasRing_4 fu s (m + 1 + 1) (nI (d + 2)) 0 bh ring = f_X8_hasRing_4 fu s (m + 1) (nI (d + 2)) (0 + -1) (-1) ring := by
      rw [f_X8_hasRing_4, if_neg hn0, hnx, xb1_s, if_pos rfl, if_pos hm1]
    show f_X8_hasRing_4 fu s (m + 1 + 1) (nI (d + 2)) 0 bh ring = _
    rw [e1, f_X8_hasRing_4, if_pos hm1]
  | succ l ih =>
    intro b ring bh hb hbh
    have hnx : f_X8_nextAt fu 0 bh s ring = some (nI b) := by
      obtain ⟨m, hm⟩ : ∃ m', fu = m' + 1 := ⟨fu - 1, by omega⟩
      rw [f_X8_nextAt, hbh]
      have : f_X8_nextAt_4 fu s ring (m + 1) 0 (nI b) = some (nI b) := by
        simp (disch := omega) only [f_X8_nextAt_4, hO.2.1, xb1_s, y_nge, if_false, if_true]
      rw [← hm] at this
      exact this
    have hpn : ¬ nI b = -1 := y_nm1' (by omega)
    have hsz : ¬ (0 : Int32) + 1 = nI (d + 2) := fun q => by
      have : nI 1 = nI (d + 2) := q
      have := (nI_eq (a := 1) (b := d + 2) (by omega) (by omega)).mp this
      omega
    have hst : ∀ m, f_X8_hasRing_4 fu s (m + 1) (nI (d + 2)) 0 bh ring = f_X8_hasRing_4 fu s m (nI (d + 2)) (nI 1) (-1) (upd ring 0 (nI b)) := fun m => by
      rw [f_X8_hasRing_4, if_neg hn0, hnx, xb1_s, if_neg hpn, y_xk y_in0, if_neg hsz]
      rfl
    have hr : ∀ k, k < 1 → upd ring 0 (nI b) k = nI ((fun _ : Nat => b) k) ∧ (fun _ : Nat => b) k < 6 := fun k hk => by
      have : k = 0 := by omega
      subst this
      exact ⟨pk_us, (by omega : b < 6)⟩
    have hz : (-1 : Int32) + 1 = nI 0 := by decide
    have hs : ysr E (d + 1) 1 (fun _ => b) = yfst (fun q => yit (yok E (fun _ => b) 1 q) (ysr E d (1 + 1) (updN (fun _ => b) 1 q)) none) 6 0 := by rw [ysr]
    have hmul : (l + 1) * (1 + tB (d + 1)) = l * (1 + tB (d + 1)) + (1 + tB (d + 1)) := Nat.succ_mul _ _
    have htb : tB (d + 1) = 6 * (1 + tB d) + 1 := rfl
    rcases h_inner hfu hO (size := d + 2) (by omega) (by omega) h6 (h_loop hfu hO h6 d 1 (fun _ => b) (by omega) (by omega)) 6 0 (upd ring 0 (nI b)) (-1) (by omega) hz hr with ⟨e1, c, ring', e2, e3, e4⟩ | ⟨r, c, ring', e1, e2, e3, e4⟩
    · have hf : (fun p => ysr E (d + 1) 1 (fun _ => p)) b = none := by
        show ysr E (d + 1) 1 (fun _ => b) = none
        rw [hs]; exact e1
      rw [yfst_n (f := fun p => ysr E (d + 1) 1 (fun _ => p)) hf]
      rcases ih (b + 1) ring' (nI b) (by omega) (nI_1 b) with ⟨k1, c2, ring2, k2, k3⟩ | ⟨r, c2, ring2, k1, k2, k3, k4⟩
      · refine .inl ⟨k1, c2 + c + 1, ring2, by omega, fun m => ?_⟩
        rw [show m + (c2 + c + 1) = (m + c2) + c + 1 by omega, hst, e4]
        exact k3 m
      · refine .inr ⟨r, c2 + c + 1, ring2, k1, by omega, k3, fun m => ?_⟩
        rw [show m + (c2 + c + 1) = (m + c2) + c + 1 by omega, hst, e4]
        exact k4 m
    · have hf : (fun p => ysr E (d + 1) 1 (fun _ => p)) b = some r := by
        show ysr E (d + 1) 1 (fun _ => b) = some r
        rw [hs]; exact e1
      refine .inr ⟨r, c + 1, ring', yfst_t (f := fun p => ysr E (d + 1) 1 (fun _ => p)) hf, by omega, e3, fun m => ?_⟩
      rw [show m + (c + 1) = m + c + 1 by omega, hst, e4]
theorem h_has {fu n : Nat} (hfu : 70000 < fu) {E : Nat → Nat → Bool} {s : xF64} (hO : HO fu E n s) {w : Nat} (hw : 2 ≤ w) (h6 : w ≤ 6) (ring : xF32) : (yrg E w = none ∧ ∃ ring', f_X8_hasRing fu (nI w) s ring = some (0, ring')) ∨ ∃ r ring', yrg E w = some r ∧ f_X8_hasRing fu (nI w) s ring = some (1, ring') ∧ ∀ k, k < w → ring' k = nI (r k) := by
  obtain ⟨d, rfl⟩ : ∃ d, w = d + 2 := ⟨w - 2, by omega⟩
  have hn := hO.1
  have htb : tB (d + 1) ≤ 10885 := by
    obtain rfl | rfl | rfl | rfl | rfl : d = 0 ∨ d = 1 ∨ d = 2 ∨ d = 3 ∨ d = 4 := by omega
    all_goals decide
  have hm : n * (1 + tB (d + 1)) ≤ 6 * 10886 := Nat.mul_le_mul hn (by omega)
  rw [yrg_ref hn hO.2.2.2 hw]
  have es : ∀ c, c ≤ 66000 → f_X8_hasRing fu (nI (d + 2)) s ring = f_X8_hasRing_4 fu s ((fu - c) + c) (nI (d + 2)) 0 (-1) ring := fun c hc => by
    rw [f_X8_hasRing, show fu - c + c = fu by omega]
  rcases h_top (by omega) hO h6 n 0 ring (-1) (by omega) (by decide) with ⟨e1, c, ring', e2, e3⟩ | ⟨r, c, ring', e1, e2, e3, e4⟩
  · exact .inl ⟨e1, ring', by rw [es c (by omega)]; exact e3 _⟩
  · exact .inr ⟨r, ring', e1, by rw [es c (by omega)]; exact e4 _, e3⟩
theorem h_first {fu n : Nat} (hfu : 70000 < fu) {E : Nat → Nat → Bool} {s : xF64} (hO : HO fu E n s) : ∀ l w m (ring : xF32), w + l = n + 1 → 2 ≤ w → l < m → ∃ g0 ring', f_X8_firstRing_2 fu s m (nI w) ring = some (g0, ring') ∧ ((yfst (yfr1 E) l w = none ∧ g0 = 0) ∨ ∃ q r, yfst (yfr1 E) l w = some (q, r) ∧ g0 = nI q ∧ ∀ k, k < q → ring' k = nI (r k)) := by
  have hn := hO.1
  intro l
  induction l with
  | zero =>
    intro w m ring hw h2 hm
    obtain ⟨m, rfl⟩ : ∃ m', m = m' + 1 := ⟨m - 1, by omega⟩
    refine ⟨0, ring, ?_, .inl ⟨rfl, rfl⟩⟩
    simp (disch := omega) only [f_X8_firstRing_2, hO.2.1, xb1_s, y_lt_t, if_true]
  | succ l ih =>
    intro w m ring hw h2 hm
    obtain ⟨m, rfl⟩ : ∃ m', m = m' + 1 := ⟨m - 1, by omega⟩
    rcases h_has hfu hO (w := w) h2 (by omega) ring with ⟨e1, ring', e2⟩ | ⟨r, ring', e1, e2, e3⟩
    · obtain ⟨g0, ring2, k1, k2⟩ := ih (w + 1) m ring' (by omega) (by omega) (by omega)
      refine ⟨g0, ring2, ?_, by rw [yfst_n (yfr1_n e1)]; exact k2⟩
      rw [← k1]
      simp (disch := omega) only [f_X8_firstRing_2, hO.2.1, xb1_s, y_nlt, if_false, e2, xb2_s, if_true, nI_1]
    · refine ⟨nI w, ring', ?_, .inr ⟨w, r, yfst_t (yfr1_t e1), rfl, e3⟩⟩
      simp (disch := omega) only [f_X8_firstRing_2, hO.2.1, xb1_s, y_nlt, if_false, e2, xb2_s, y_10]
/-- the reference's first ring -/
theorem h_find {fu n : Nat} (hfu : 70000 < fu) {E : Nat → Nat → Bool} {s : xF64} (hO : HO fu E n s) (ring : xF32) : ∃ g0 ring', f_X8_firstRing fu s ring = some (g0, ring') ∧ ((yfr E = none ∧ g0 = 0) ∨ ∃ q r, yfr E = some (q, r) ∧ g0 = nI q ∧ ∀ k, k < q → ring' k = nI (r k)) := by
  have hn := hO.1
  rw [yfr_ref hn hO.2.2.2]
  by_cases c : 1 ≤ n
  · exact h_first hfu hO (n - 1) 2 fu ring (by omega) (by omega) (by omega)
  · have h0 : n = 0 := by omega
    subst h0
    refine ⟨0, ring, ?_, .inl ⟨rfl, rfl⟩⟩
    obtain ⟨m, hm⟩ : ∃ m', fu = m' + 1 := ⟨fu - 1, by omega⟩
    have : f_X8_firstRing_2 fu s (m + 1) (nI 2) ring = some (0, ring) := by
      simp (disch := omega) only [f_X8_firstRing_2, hO.2.1, xb1_s, y_lt_t, if_true]
    rw [← hm] at this
    exact this
