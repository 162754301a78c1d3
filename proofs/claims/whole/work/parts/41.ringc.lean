-- the class's search
theorem y_m1 {n : Nat} (h : 1 ≤ n) : nI n - 1 = nI (n - 1) := pk_sub h
theorem y_in0 : xin 0 6 = true := by decide
theorem y_cl0 : (0 : Int32).toNatClampNeg = 0 := rfl
theorem y_nlt {a b : Nat} (h : b ≤ a) (ha : a < 2 ^ 31) : (nI a < nI b) = False := eq_false (nI_nlt h ha)
theorem y_lt_t {a b : Nat} (h : a < b) (hb : b < 2 ^ 31) : (nI a < nI b) = True := eq_true (nI_lt h hb)
theorem y_ne {a b : Nat} (h : a ≠ b) (ha : a < 2 ^ 31) (hb : b < 2 ^ 31) : (nI a = nI b) = False := eq_false (fun q => h ((nI_eq ha hb).mp q))
theorem y_ne0 {a : Nat} (h : 0 < a) (ha : a < 2 ^ 31) : (nI a = 0) = False := eq_false (nI_ne0 h ha)
theorem y_10 : ((1 : Int32) = 0) = False := eq_false (by decide)
set_option maxRecDepth 100000 in
theorem y_bit : ∀ c, c < 64 → ∀ b, b < 6 → (c ||| (1 <<< b)) < 64 ∧ nI c ||| ((1 : Int32) <<< (nI b &&& 31)) = nI (c ||| (1 <<< b)) ∧ ∀ e, e < 6 → (((nI (c ||| (1 <<< b)) >>> (nI e &&& 31)) &&& 1 = 1) ↔ (e = b ∨ (nI c >>> (nI e &&& 31)) &&& 1 = 1)) := by decide +kernel
theorem y_bit0 : ∀ b, b < 6 → ¬ ((nI 0 >>> (nI b &&& 31)) &&& 1 = 1) := by decide +kernel
def RG (E : Nat → Nat → Bool) (G2 : xF32) : Prop := ∀ a, a < 6 → ∃ c, c < 64 ∧ G2 a = nI c ∧ ∀ b, b < 6 → ((nI c >>> (nI b &&& 31)) &&& 1 = 1 ↔ E a b = true)
theorem r_zero {fu : Nat} {D : sDeb} : ∀ l i m (G2 : xF32), i + l = 6 → l < m → (∀ a, a < i → G2 a = 0) → ∃ G2', f_X5_markCreditors_2 fu D m (nI i) G2 = f_X5_markCreditors_23 fu D fu 0 G2' ∧ ∀ a, a < 6 → G2' a = 0 := by
  intro l
  induction l with
  | zero =>
    intro i m G2 hi hm h
    obtain ⟨m, rfl⟩ : ∃ m', m = m' + 1 := ⟨m - 1, by omega⟩
    have hi' : i = 6 := by omega
    subst hi'
    refine ⟨G2, ?_, h⟩
    simp (disch := omega) only [f_X5_markCreditors_2, q6, y_self, if_true]
  | succ l ih =>
    intro i m G2 hi hm h
    obtain ⟨m, rfl⟩ : ∃ m', m = m' + 1 := ⟨m - 1, by omega⟩
    obtain ⟨G2', g1, g2⟩ := ih (i + 1) m (upd G2 i 0) (by omega) (by omega) (fun a ha => by
      by_cases e : a = i
      · subst e; exact pk_us
      · rw [pk_un e]; exact h a (by omega))
    refine ⟨G2', ?_, g2⟩
    rw [← g1]
    simp (disch := omega) only [f_X5_markCreditors_2, q6, y_nge, if_false, y_in, xk_t, y_cl, nI_1]
theorem r_mark {fu n pn : Nat} {D : sDeb} (hn : n ≤ 30) (hD : D.1 = nI n) (hp : pn ≤ 6) (v : VD1 n D pn) : ∀ l i m (G2 : xF32), i + l = n → l < m → RG (yE D i) G2 → ∃ G2', f_X5_markCreditors_23 fu D m (nI i) G2 = some G2' ∧ RG (yE D n) G2' := by
  intro l
  induction l with
  | zero =>
    intro i m G2 hi hm h
    obtain ⟨m, rfl⟩ : ∃ m', m = m' + 1 := ⟨m - 1, by omega⟩
    have hi' : i = n := by omega
    subst hi'
    refine ⟨G2, ?_, h⟩
    simp (disch := omega) only [f_X5_markCreditors_23, hD, y_self, if_true]
  | succ l ih =>
    intro i m G2 hi hm h
    obtain ⟨m, rfl⟩ : ∃ m', m = m' + 1 := ⟨m - 1, by omega⟩
    obtain ⟨a, b, ha, hb, hab, e1, e2⟩ := v.1 i (by omega)
    obtain ⟨c, hc, gc, hbit⟩ := h a (by omega)
    obtain ⟨k1, k2, k3⟩ := y_bit c hc b (by omega)
    obtain ⟨G2', g1, g2⟩ := ih (i + 1) m (upd G2 a (nI (c ||| (1 <<< b)))) (by omega) (by omega) (fun a' ha' => by
      by_cases e : a' = a
      · subst e
        refine ⟨_, k1, pk_us, fun b' hb' => ?_⟩
        rw [k3 b' hb', hbit b' hb']
        rw [yE_s, Bool.or_eq_true, decide_eq_true_eq, e1, e2]
        refine ⟨fun q => ?_, fun q => ?_⟩
        · rcases q with rfl | q
          · exact .inr ⟨rfl, rfl⟩
          · exact .inl q
        · rcases q with q | ⟨q1, q2⟩
          · exact .inr q
          · exact .inl ((nI_eq (by omega) (by omega)).mp q2.symm)
      · obtain ⟨c', hc', gc', hb'⟩ := h a' ha'
        refine ⟨c', hc', by rw [pk_un e]; exact gc', fun b' hb'' => ?_⟩
        rw [hb' b' hb'']
        rw [yE_s, Bool.or_eq_true, decide_eq_true_eq, e1, e2]
        refine ⟨fun q => .inl q, fun q => ?_⟩
        rcases q with q | ⟨q1, q2⟩
        · exact q
        · exact absurd ((nI_eq (by omega) (by omega)).mp q1).symm e)
    refine ⟨G2', ?_, g2⟩
    rw [← g1, ← k2]
    simp (disch := omega) only [f_X5_markCreditors_23, hD, y_nge, if_false, e1, e2, y_in, xk_t, y_cl, gc, nI_1]
theorem r_marks {fu n pn : Nat} {D : sDeb} (hfu : 40 < fu) (hn : n ≤ 30) (hD : D.1 = nI n) (hp : pn ≤ 6) (v : VD1 n D pn) (G2 : xF32) : ∃ G2', f_X5_markCreditors fu D G2 = some G2' ∧ RG (yE D n) G2' := by
  obtain ⟨G, g1, g2⟩ := r_zero (fu := fu) (D := D) 6 0 fu G2 (by omega) (by omega) (fun a ha => absurd ha (Nat.not_lt_zero a))
  obtain ⟨G', k1, k2⟩ := r_mark (fu := fu) hn hD hp v n 0 fu G (by omega) (by omega) (fun a ha => ⟨0, by omega, g2 a ha, fun b hb => ⟨fun q => absurd q (y_bit0 b hb), fun q => by cases q⟩⟩)
  exact ⟨G', by rw [← k1]; exact g1, k2⟩
theorem r_stands {fu len p : Nat} {G1 : xF32} {row : Nat → Nat} (hl : len ≤ 6) (hr : ∀ k, k < len → G1 k = nI (row k) ∧ row k < 6) (hp : p < 6) : ∀ l i m, i + l = len → l < m → (∀ k, k < i → row k ≠ p) → (f_X5_stands_2 fu G1 m (nI len) (nI p) (nI i) = some 0 ∧ ∀ k, k < len → row k ≠ p) ∨ (f_X5_stands_2 fu G1 m (nI len) (nI p) (nI i) = some 1 ∧ ∃ k, k < len ∧ row k = p) := by
  intro l
  induction l with
  | zero =>
    intro i m hi hm h
    obtain ⟨m, rfl⟩ : ∃ m', m = m' + 1 := ⟨m - 1, by omega⟩
    have hi' : i = len := by omega
    subst hi'
    refine .inl ⟨?_, h⟩
    simp (disch := omega) only [f_X5_stands_2, y_self, if_true]
  | succ l ih =>
    intro i m hi hm h
    obtain ⟨m, rfl⟩ : ∃ m', m = m' + 1 := ⟨m - 1, by omega⟩
    obtain ⟨r1, r2⟩ := hr i (by omega)
    by_cases e : row i = p
    · refine .inr ⟨?_, i, by omega, e⟩
      simp (disch := omega) only [f_X5_stands_2, y_nge, if_false, y_in, xk_t, y_cl, r1, e, if_true]
    · have := ih (i + 1) m (by omega) (by omega) (fun k hk => by
        by_cases e2 : k = i
        · subst e2; exact e
        · exact h k (by omega))
      have es : f_X5_stands_2 fu G1 (m + 1) (nI len) (nI p) (nI i) = f_X5_stands_2 fu G1 m (nI len) (nI p) (nI (i + 1)) := by
        simp (disch := omega) only [f_X5_stands_2, y_nge, if_false, y_in, xk_t, y_cl, r1, y_ne e, nI_1]
      rw [es]
      exact this
theorem r_closes {fu : Nat} (hfu : 40 < fu) {E : Nat → Nat → Bool} {G2 : xF32} (hE : RG E G2) {size : Nat} (h6 : size ≤ 6) : ∀ d dp, d < dp → ∀ len (row : Nat → Nat) (G1 : xF32), len + d = size → 1 ≤ len → (∀ k, k < len → G1 k = nI (row k) ∧ row k < 6) → ∃ b G1', f_X5_closes fu dp (nI len) (nI size) G1 G2 = some (b, G1') ∧ ((ysr E d len row = none ∧ b = 0 ∧ ∀ k, k < len → G1' k = nI (row k)) ∨ ∃ r, ysr E d len row = some r ∧ b = 1 ∧ ∀ k, k < size → G1' k = nI (r k)) := by
  intro d
  induction d with
  | zero =>
    intro dp hd len row G1 hl h1 hr
    obtain ⟨dp, rfl⟩ : ∃ dp', dp = dp' + 1 := ⟨dp - 1, by omega⟩
    have hl' : len = size := by omega
    subst hl'
    obtain ⟨a1, a2⟩ := hr (len - 1) (by omega)
    obtain ⟨b1, b2⟩ := hr 0 (by omega)
    obtain ⟨c, hc, gc, hbit⟩ := hE (row (len - 1)) a2
    by_cases e : E (row (len - 1)) (row 0) = true
    · have hb := (hbit (row 0) b2).mpr e
      refine ⟨1, G1, ?_, .inr ⟨row, by rw [ysr, yit_t e], rfl, fun k hk => (hr k hk).1⟩⟩
      simp (disch := omega) only [f_X5_closes, y_m1, y_in, xk_t, y_cl, a1, y_nlt, if_false, y_in0, y_cl0, b1, gc, hb, if_true]
    · have hb : ¬ ((nI c >>> (nI (row 0) &&& 31)) &&& 1 = 1) := fun q => e ((hbit (row 0) b2).mp q)
      refine ⟨0, G1, ?_, .inl ⟨by rw [ysr, yit_f e], rfl, fun k hk => (hr k hk).1⟩⟩
      simp (disch := omega) only [f_X5_closes, y_m1, y_in, xk_t, y_cl, a1, y_nlt, if_false, y_in0, y_cl0, b1, gc, hb]
  | succ d ih =>
    intro dp hd len row G1 hl h1 hr
    obtain ⟨dp, rfl⟩ : ∃ dp', dp = dp' + 1 := ⟨dp - 1, by omega⟩
    obtain ⟨a1, a2⟩ := hr (len - 1) (by omega)
    obtain ⟨b1, b2⟩ := hr 0 (by omega)
    obtain ⟨c, hc, gc, hbit⟩ := hE (row (len - 1)) a2
    have key : ∀ l p m (G1 : xF32), p + l = 6 → l < m → row 0 < p → (∀ k, k < len → G1 k = nI (row k) ∧ row k < 6) → ∃ b G1', f_X5_closes_39 (f_X5_closes fu dp) fu G2 m (nI len) (nI size) (nI c) (nI p) G1 = some (b, G1') ∧ ((yfst (fun p => yit (yok E row len p) (ysr E d (len + 1) (updN row len p)) none) l p = none ∧ b = 0 ∧ ∀ k, k < len → G1' k = nI (row k)) ∨ ∃ r, yfst (fun p => yit (yok E row len p) (ysr E d (len + 1) (updN row len p)) none) l p = some r ∧ b = 1 ∧ ∀ k, k < size → G1' k = nI (r k)) := by
      intro l
      induction l with
      | zero =>
        intro p m G1 hp hm h0 hr
        obtain ⟨m, rfl⟩ : ∃ m', m = m' + 1 := ⟨m - 1, by omega⟩
        have hp' : p = 6 := by omega
        subst hp'
        refine ⟨0, G1, ?_, .inl ⟨rfl, rfl, fun k hk => (hr k hk).1⟩⟩
        simp (disch := omega) only [f_X5_closes_39, q6, y_self, if_true]
      | succ l ihl =>
        intro p m G1 hp hm h0 hr
        obtain ⟨m, rfl⟩ : ∃ m', m = m' + 1 := ⟨m - 1, by omega⟩
        by_cases hbt : E (row (len - 1)) p = true
        · have hb := (hbit p (by omega)).mpr hbt
          rcases r_stands (fu := fu) (p := p) (by omega) hr (by omega) len 0 fu (by omega) (by omega) (fun k hk => absurd hk (Nat.not_lt_zero k)) with ⟨st, hst⟩ | ⟨st, k0, hk0, hst⟩
          · have st' : f_X5_stands fu (nI len) (nI p) G1 = some 0 := st
            have ok : yok E row len p := ⟨h0, hst, hbt⟩
            have hr2 : ∀ k, k < len + 1 → upd G1 len (nI p) k = nI (updN row len p k) ∧ updN row len p k < 6 := fun k hk => by
              by_cases e : k = len
              · subst e
                rw [pk_us, updN_s]
                exact ⟨rfl, by omega⟩
              · rw [pk_un e, updN_n e]
                exact hr k (by omega)
            obtain ⟨b, G3, g1, g2⟩ := ih dp (by omega) (len + 1) (updN row len p) (upd G1 len (nI p)) (by omega) (by omega) hr2
            rcases g2 with ⟨g2, rfl, g3⟩ | ⟨r, g2, rfl, g3⟩
            · have hf : (fun p => yit (yok E row len p) (ysr E d (len + 1) (updN row len p)) none) p = none := by
                show yit (yok E row len p) (ysr E d (len + 1) (updN row len p)) none = none
                rw [yit_t ok, g2]
              obtain ⟨b', G1', k1, k2⟩ := ihl (p + 1) m G3 (by omega) (by omega) (by omega) (fun k hk => ⟨by rw [g3 k (by omega), updN_n (by omega)], (hr k hk).2⟩)
              refine ⟨b', G1', ?_, by rw [yfst_n hf]; exact k2⟩
              rw [← k1]
              simp (disch := omega) only [f_X5_closes_39, q6, y_nge, if_false, hb, if_true, st', xb1_s, y_in, xk_t, y_cl, nI_1, g1, xb2_s]
            · have hf : (fun p => yit (yok E row len p) (ysr E d (len + 1) (updN row len p)) none) p = some r := by
                show yit (yok E row len p) (ysr E d (len + 1) (updN row len p)) none = some r
                rw [yit_t ok, g2]
              refine ⟨1, G3, ?_, .inr ⟨r, yfst_t hf, rfl, g3⟩⟩
              simp (disch := omega) only [f_X5_closes_39, q6, y_nge, if_false, hb, if_true, st', xb1_s, y_in, xk_t, y_cl, nI_1, g1, xb2_s, y_10]
          · have st' : f_X5_stands fu (nI len) (nI p) G1 = some 1 := st
            have nok : ¬ yok E row len p := fun q => q.2.1 k0 hk0 hst
            have hf : (fun p => yit (yok E row len p) (ysr E d (len + 1) (updN row len p)) none) p = none := yit_f nok
            obtain ⟨b', G1', k1, k2⟩ := ihl (p + 1) m G1 (by omega) (by omega) (by omega) hr
            refine ⟨b', G1', ?_, by rw [yfst_n hf]; exact k2⟩
            rw [← k1]
            simp (disch := omega) only [f_X5_closes_39, q6, y_nge, if_false, hb, if_true, st', xb1_s, y_10, nI_1]
        · have hb : ¬ ((nI c >>> (nI p &&& 31)) &&& 1 = 1) := fun q => hbt ((hbit p (by omega)).mp q)
          have nok : ¬ yok E row len p := fun q => hbt q.2.2
          have hf : (fun p => yit (yok E row len p) (ysr E d (len + 1) (updN row len p)) none) p = none := yit_f nok
          obtain ⟨b', G1', k1, k2⟩ := ihl (p + 1) m G1 (by omega) (by omega) (by omega) hr
          refine ⟨b', G1', ?_, by rw [yfst_n hf]; exact k2⟩
          rw [← k1]
          simp (disch := omega) only [f_X5_closes_39, q6, y_nge, if_false, hb, nI_1]
    obtain ⟨b, G1', g1, g2⟩ := key (6 - (row 0 + 1)) (row 0 + 1) fu G1 (by omega) (by omega) (by omega) hr
    have hsk : ysr E (d + 1) len row = yfst (fun p => yit (yok E row len p) (ysr E d (len + 1) (updN row len p)) none) (6 - (row 0 + 1)) (row 0 + 1) := by
      have e6 : (6 : Nat) = (row 0 + 1) + (6 - (row 0 + 1)) := by omega
      rw [ysr]
      refine Eq.trans (congrArg (fun z => yfst (fun p => yit (yok E row len p) (ysr E d (len + 1) (updN row len p)) none) z 0) e6) ?_
      show yfst (fun p => yit (yok E row len p) (ysr E d (len + 1) (updN row len p)) none) ((row 0 + 1) + (6 - (row 0 + 1))) 0 = _
      rw [yfst_skip (row 0 + 1) (6 - (row 0 + 1)) 0 (fun q _ hq => yit_f (fun ok => by have := ok.1; omega)), Nat.zero_add]
    refine ⟨b, G1', ?_, by rw [hsk]; exact g2⟩
    rw [← g1]
    simp (disch := omega) only [f_X5_closes, y_m1, y_in, xk_t, y_cl, a1, y_lt_t, if_true, y_in0, y_cl0, b1, gc, nI_1]
theorem r_row {fu : Nat} (hfu : 40 < fu) {E : Nat → Nat → Bool} {G2 : xF32} (hE : RG E G2) {D : sDeb} {kx0 kx1 : Int32 → Int32 → xF32 → xF32 → Option (Int32 × xF32 × xF32)} {G0 : Int32} {w : Nat} (hw : 2 ≤ w) (hw6 : w ≤ 6) : ∀ l p m (G1 : xF32), p + l = 7 - w → l < m → ∃ G1', (yfst (fun p => ysr E (w - 1) 1 (fun _ => p)) l p = none ∧ f_X5_findFirst_20 kx0 kx1 fu D m (nI w) (nI p) G0 G1 G2 = kx1 (nI w) G0 G1' G2) ∨ ∃ r, yfst (fun p => ysr E (w - 1) 1 (fun _ => p)) l p = some r ∧ f_X5_findFirst_20 kx0 kx1 fu D m (nI w) (nI p) G0 G1 G2 = kx0 (nI w) G0 G1' G2 ∧ ∀ k, k < w → G1' k = nI (r k) := by
  intro l
  induction l with
  | zero =>
    intro p m G1 hp hm
    obtain ⟨m, rfl⟩ : ∃ m', m = m' + 1 := ⟨m - 1, by omega⟩
    refine ⟨G1, .inl ⟨rfl, ?_⟩⟩
    simp (disch := omega) only [f_X5_findFirst_20, q6, pk_sub, y_lt_t, if_true]
  | succ l ih =>
    intro p m G1 hp hm
    obtain ⟨m, rfl⟩ : ∃ m', m = m' + 1 := ⟨m - 1, by omega⟩
    obtain ⟨b, G3, g1, g2⟩ := r_closes hfu hE hw6 (w - 1) 8 (by omega) 1 (fun _ => p) (upd G1 0 (nI p)) (by omega) (by omega) (fun k hk => by
      have : k = 0 := by omega
      subst this
      exact ⟨pk_us, by omega⟩)
    have g1' : f_X5_closes fu 8 1 (nI w) (upd G1 (0 : Int32).toNatClampNeg (nI p)) G2 = some (b, G3) := g1
    rcases g2 with ⟨g2, rfl, g3⟩ | ⟨r, g2, rfl, g3⟩
    · obtain ⟨G1', k⟩ := ih (p + 1) m G3 (by omega) (by omega)
      have hf : (fun p => ysr E (w - 1) 1 (fun _ => p)) p = none := g2
      refine ⟨G1', ?_⟩
      rw [yfst_n hf]
      have es : f_X5_findFirst_20 kx0 kx1 fu D (m + 1) (nI w) (nI p) G0 G1 G2 = f_X5_findFirst_20 kx0 kx1 fu D m (nI w) (nI (p + 1)) G0 G3 G2 := by
        rw [f_X5_findFirst_20, y_xk y_in0, g1']
        simp (disch := omega) only [q6, pk_sub, y_nlt, if_false, xb2_s, if_true, nI_1]
      rw [es]
      exact k
    · have hf : (fun p => ysr E (w - 1) 1 (fun _ => p)) p = some r := g2
      refine ⟨G3, .inr ⟨r, yfst_t hf, ?_, g3⟩⟩
      rw [f_X5_findFirst_20, y_xk y_in0, g1']
      simp (disch := omega) only [q6, pk_sub, y_nlt, if_false, xb2_s, y_10]
theorem r_first {fu : Nat} (hfu : 40 < fu) {E : Nat → Nat → Bool} {G2 : xF32} (hE : RG E G2) {D : sDeb} : ∀ l w m (G1 : xF32), w + l = 7 → 2 ≤ w → l < m → ∃ g0 G1', f_X5_findFirst_12 fu D m (nI w) 0 G1 G2 = some (g0, G1', G2) ∧ ((yfst (yfr1 E) l w = none ∧ g0 = 0) ∨ ∃ q r, yfst (yfr1 E) l w = some (q, r) ∧ g0 = nI q ∧ ∀ k, k < q → G1' k = nI (r k)) := by
  intro l
  induction l with
  | zero =>
    intro w m G1 hw h2 hm
    obtain ⟨m, rfl⟩ : ∃ m', m = m' + 1 := ⟨m - 1, by omega⟩
    refine ⟨0, G1, ?_, .inl ⟨rfl, rfl⟩⟩
    simp (disch := omega) only [f_X5_findFirst_12, q6, y_lt_t, if_true]
  | succ l ih =>
    intro w m G1 hw h2 hm
    obtain ⟨m, rfl⟩ : ∃ m', m = m' + 1 := ⟨m - 1, by omega⟩
    obtain ⟨G3, h3⟩ := r_row hfu hE (D := D) (kx0 := fun n10 uG0_11 uG1_12 uG2_13 => (some (n10, uG1_12, uG2_13))) (kx1 := fun n14 uG0_15 uG1_16 uG2_17 => (f_X5_findFirst_12 fu D m (n14 + 1) uG0_15 uG1_16 uG2_17)) (G0 := 0) h2 (by omega) (7 - w) 0 fu G1 (by omega) (by omega)
    rw [← yrg_cls h2 (by omega)] at h3
    have es : f_X5_findFirst_12 fu D (m + 1) (nI w) 0 G1 G2 = f_X5_findFirst_20 (fun n10 uG0_11 uG1_12 uG2_13 => (some (n10, uG1_12, uG2_13))) (fun n14 uG0_15 uG1_16 uG2_17 => (f_X5_findFirst_12 fu D m (n14 + 1) uG0_15 uG1_16 uG2_17)) fu D fu (nI w) (nI 0) 0 G1 G2 := by
      have n6 : ¬ (6 : Int32) < nI w := nI_nlt (a := 6) (b := w) (by omega) (by omega)
      rw [f_X5_findFirst_12, if_neg n6]
      rfl
    rw [es]
    rcases h3 with ⟨e1, e2⟩ | ⟨r, e1, e2, e3⟩
    · obtain ⟨g0, G1', k1, k2⟩ := ih (w + 1) m G3 (by omega) (by omega) (by omega)
      refine ⟨g0, G1', ?_, by rw [yfst_n (yfr1_n e1)]; exact k2⟩
      rw [e2, ← k1, ← nI_1]
    · exact ⟨nI w, G3, e2, .inr ⟨w, r, yfst_t (yfr1_t e1), rfl, e3⟩⟩
/-- the class's first ring -/
theorem r_find {fu n pn : Nat} {D : sDeb} (hfu : 40 < fu) (hn : n ≤ 30) (hD : D.1 = nI n) (hp : pn ≤ 6) (v : VD1 n D pn) (G0 : Int32) (G1 G2 : xF32) : ∃ g0 G1' G2', f_X5_findFirst fu D G0 G1 G2 = some (g0, G1', G2') ∧ ((yfr (yE D n) = none ∧ g0 = 0) ∨ ∃ q r, yfr (yE D n) = some (q, r) ∧ g0 = nI q ∧ ∀ k, k < q → G1' k = nI (r k)) := by
  obtain ⟨G2', m1, m2⟩ := r_marks hfu hn hD hp v G2
  obtain ⟨g0, G1', k1, k2⟩ := r_first hfu m2 (D := D) 5 2 fu G1 (by omega) (by omega) (by omega)
  refine ⟨g0, G1', G2', ?_, k2⟩
  rw [f_X5_findFirst, m1, xb1_s]
  exact k1
