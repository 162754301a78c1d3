section XROWS2
variable {κ : xKt} {A : Nat → Prop} {p : Program} {l : Launch} {e : Env} {R : Room} {s : State} {m : MethodId} {args : Array Value} {below : List Frame} {meth : Method} {c : Code} {H : Heap} {locs : List Loc} {cells slots : Nat} {Q : State → Prop}
variable {cc : ByteArray} {own : String} {nL : Nat} {ret : Option FieldType} {pc : Nat} {ls : Array Slot} {rest : List Value} {σ σ' : sW}
theorem lgc_eq (x y : Int64) : lg_cmp x y = 0 ↔ x = y := by
  unfold lg_cmp
  simp only [gt_iff_lt, Int64.lt_iff_toInt_lt, ← Int64.toInt_inj]
  repeat' split
  all_goals first | (constructor <;> intro h <;> first | omega | (exact absurd h (by decide)) | rfl | assumption)
theorem lgc_lt (x y : Int64) : lg_cmp x y < 0 ↔ x < y := by
  unfold lg_cmp
  simp only [gt_iff_lt, Int64.lt_iff_toInt_lt, ← Int64.toInt_inj]
  repeat' split
  all_goals first | (constructor <;> intro h <;> first | omega | (exact absurd h (by decide)) | decide | assumption)
theorem lgc_le (x y : Int64) : lg_cmp x y ≤ 0 ↔ x ≤ y := by
  unfold lg_cmp
  simp only [gt_iff_lt, Int64.lt_iff_toInt_lt, Int64.le_iff_toInt_le, ← Int64.toInt_inj]
  repeat' split
  all_goals first | (constructor <;> intro h <;> first | omega | (exact absurd h (by decide)) | decide | assumption)
theorem lgc_gt (x y : Int64) : 0 < lg_cmp x y ↔ y < x := by
  unfold lg_cmp
  simp only [gt_iff_lt, Int64.lt_iff_toInt_lt, ← Int64.toInt_inj]
  repeat' split
  all_goals first | (constructor <;> intro h <;> first | omega | (exact absurd h (by decide)) | decide | assumption)
theorem x_lcmp_eq (hexec : p.tables.exec = Jvm.exec) (hb : c.code = cc) {x y : Int64} {off : Int} {tgt : Nat} (d1 : decode cc pc = .ok (.lcmp, 1)) (d2 : decode cc (pc + 1) = .ok (.ifCond .eq off, 3)) (ht : ((pc + 1 : Nat) : Int) + off = (tgt : Int))
    (kt : x = y → W p l e R s m args below meth c H locs cells slots Q (F0 m tgt ls rest)) (kf : ¬ x = y → W p l e R s m args below meth c H locs cells slots Q (F0 m (pc + 1 + 3) ls rest)) : W p l e R s m args below meth c H locs cells slots Q (F0 m pc ls (.long y :: .long x :: rest)) :=
  W.lcmp hexec hb d1 (lv_if_eq hexec hb d2 ht (fun h => kt ((lgc_eq x y).mp h)) (fun h => kf (fun q => h ((lgc_eq x y).mpr q))))
theorem x_lcmp_ne (hexec : p.tables.exec = Jvm.exec) (hb : c.code = cc) {x y : Int64} {off : Int} {tgt : Nat} (d1 : decode cc pc = .ok (.lcmp, 1)) (d2 : decode cc (pc + 1) = .ok (.ifCond .ne off, 3)) (ht : ((pc + 1 : Nat) : Int) + off = (tgt : Int))
    (kt : ¬ x = y → W p l e R s m args below meth c H locs cells slots Q (F0 m tgt ls rest)) (kf : x = y → W p l e R s m args below meth c H locs cells slots Q (F0 m (pc + 1 + 3) ls rest)) : W p l e R s m args below meth c H locs cells slots Q (F0 m pc ls (.long y :: .long x :: rest)) :=
  W.lcmp hexec hb d1 (lv_if_ne hexec hb d2 ht (fun h => kt (fun q => h ((lgc_eq x y).mpr q))) (fun h => kf ((lgc_eq x y).mp h)))
theorem x_lcmp_lt (hexec : p.tables.exec = Jvm.exec) (hb : c.code = cc) {x y : Int64} {off : Int} {tgt : Nat} (d1 : decode cc pc = .ok (.lcmp, 1)) (d2 : decode cc (pc + 1) = .ok (.ifCond .lt off, 3)) (ht : ((pc + 1 : Nat) : Int) + off = (tgt : Int))
    (kt : x < y → W p l e R s m args below meth c H locs cells slots Q (F0 m tgt ls rest)) (kf : ¬ x < y → W p l e R s m args below meth c H locs cells slots Q (F0 m (pc + 1 + 3) ls rest)) : W p l e R s m args below meth c H locs cells slots Q (F0 m pc ls (.long y :: .long x :: rest)) :=
  W.lcmp hexec hb d1 (lv_if_lt hexec hb d2 ht (fun h => kt ((lgc_lt x y).mp h)) (fun h => kf (fun q => h ((lgc_lt x y).mpr q))))
theorem x_lcmp_le (hexec : p.tables.exec = Jvm.exec) (hb : c.code = cc) {x y : Int64} {off : Int} {tgt : Nat} (d1 : decode cc pc = .ok (.lcmp, 1)) (d2 : decode cc (pc + 1) = .ok (.ifCond .le off, 3)) (ht : ((pc + 1 : Nat) : Int) + off = (tgt : Int))
    (kt : x ≤ y → W p l e R s m args below meth c H locs cells slots Q (F0 m tgt ls rest)) (kf : ¬ x ≤ y → W p l e R s m args below meth c H locs cells slots Q (F0 m (pc + 1 + 3) ls rest)) : W p l e R s m args below meth c H locs cells slots Q (F0 m pc ls (.long y :: .long x :: rest)) :=
  W.lcmp hexec hb d1 (lv_if_le hexec hb d2 ht (fun h => kt ((lgc_le x y).mp h)) (fun h => kf (fun q => h ((lgc_le x y).mpr q))))
theorem x_lcmp_ge (hexec : p.tables.exec = Jvm.exec) (hb : c.code = cc) {x y : Int64} {off : Int} {tgt : Nat} (d1 : decode cc pc = .ok (.lcmp, 1)) (d2 : decode cc (pc + 1) = .ok (.ifCond .ge off, 3)) (ht : ((pc + 1 : Nat) : Int) + off = (tgt : Int))
    (kt : y ≤ x → W p l e R s m args below meth c H locs cells slots Q (F0 m tgt ls rest)) (kf : ¬ y ≤ x → W p l e R s m args below meth c H locs cells slots Q (F0 m (pc + 1 + 3) ls rest)) : W p l e R s m args below meth c H locs cells slots Q (F0 m pc ls (.long y :: .long x :: rest)) :=
  W.lcmp hexec hb d1 (lv_if_ge hexec hb d2 ht (fun h => kt ((lg_cmp_ge x y).mp h)) (fun h => kf (fun q => h ((lg_cmp_ge x y).mpr q))))
theorem x_lcmp_gt (hexec : p.tables.exec = Jvm.exec) (hb : c.code = cc) {x y : Int64} {off : Int} {tgt : Nat} (d1 : decode cc pc = .ok (.lcmp, 1)) (d2 : decode cc (pc + 1) = .ok (.ifCond .gt off, 3)) (ht : ((pc + 1 : Nat) : Int) + off = (tgt : Int))
    (kt : y < x → W p l e R s m args below meth c H locs cells slots Q (F0 m tgt ls rest)) (kf : ¬ y < x → W p l e R s m args below meth c H locs cells slots Q (F0 m (pc + 1 + 3) ls rest)) : W p l e R s m args below meth c H locs cells slots Q (F0 m pc ls (.long y :: .long x :: rest)) :=
  W.lcmp hexec hb d1 (lv_if_gt hexec hb d2 ht (fun h => kt ((lgc_gt x y).mp h)) (fun h => kf (fun q => h ((lgc_gt x y).mpr q))))
/-- a switch: at a key; beside all keys -/
theorem x_tabI (hexec : p.tables.exec = Jvm.exec) (hb : c.code = cc) {dflt lo hi : Int} {offs : Array Int} {len : Nat} {x k : Int32} {off : Int} {tgt : Nat} (hdg : decode cc pc = .ok (.tableswitch dflt lo hi offs, len)) (h : x = k) (h1 : (decide (k.toInt < lo) || decide (hi < k.toInt)) = false) (ho : offs[(k.toInt - lo).toNat]? = some off) (ht : (pc : Int) + off = (tgt : Int))
    (kk : W p l e R s m args below meth c H locs cells slots Q (F0 m tgt ls rest)) : W p l e R s m args below meth c H locs cells slots Q (F0 m pc ls (.int x :: rest)) := by
  subst h
  simp only [Bool.or_eq_false_iff, decide_eq_false_iff_not] at h1
  exact lv_tableIn hexec hb hdg h1.1 h1.2 ho ht kk
theorem x_tabD (hexec : p.tables.exec = Jvm.exec) (hb : c.code = cc) {dflt lo hi : Int} {offs : Array Int} {len : Nat} {x : Int32} {tgt : Nat} (hdg : decode cc pc = .ok (.tableswitch dflt lo hi offs, len)) (h : x.toInt < lo ∨ hi < x.toInt ∨ offs[(x.toInt - lo).toNat]? = some dflt) (ht : (pc : Int) + dflt = (tgt : Int))
    (kk : W p l e R s m args below meth c H locs cells slots Q (F0 m tgt ls rest)) : W p l e R s m args below meth c H locs cells slots Q (F0 m pc ls (.int x :: rest)) := by
  by_cases h1 : x.toInt < lo
  · exact lv_tableOut hexec hb hdg (Or.inl h1) ht kk
  by_cases h2 : hi < x.toInt
  · exact lv_tableOut hexec hb hdg (Or.inr h2) ht kk
  rcases h with h | h | h
  · exact absurd h h1
  · exact absurd h h2
  · exact lv_tableIn hexec hb hdg h1 h2 h ht kk
theorem x_neT {x k : Int32} {z : Int} (h : ¬ x = k) (hk : k.toInt = z) : x.toInt ≠ z := fun q => h (Int32.toInt_inj.mp (q.trans hk.symm))
/-- constants -/
theorem x_ldc (hc : xC κ A p s m args meth c cc own nL ret) {index : Nat} {v : Int32} (hl : Cond.constant own index v ∈ gW) (hdg : decode cc pc = .ok (.ldc index, 2)) (kk : W p l e R s m args below meth c H locs cells slots Q (F0 m (pc + 2) ls (.int v :: rest))) : W p l e R s m args below meth c H locs cells slots Q (F0 m pc ls rest) :=
  lv_ldc hc.1.1 hc.1.2.1 hc.1.2.2.2.1 (hc.1.2.2.2.2 _ hl) hdg kk
theorem x_ldcw (hc : xC κ A p s m args meth c cc own nL ret) {index : Nat} {v : Int32} (hl : Cond.constant own index v ∈ gW) (hdg : decode cc pc = .ok (.ldc_w index, 3)) (kk : W p l e R s m args below meth c H locs cells slots Q (F0 m (pc + 3) ls (.int v :: rest))) : W p l e R s m args below meth c H locs cells slots Q (F0 m pc ls rest) :=
  lv_ldcw hc.1.1 hc.1.2.1 hc.1.2.2.2.1 (hc.1.2.2.2.2 _ hl) hdg kk
theorem x_ldc2 (hc : xC κ A p s m args meth c cc own nL ret) {index : Nat} {v : Int64} (hl : Cond.constantLong own index v ∈ gW) (hdg : decode cc pc = .ok (.ldc2_w index, 3)) (kk : W p l e R s m args below meth c H locs cells slots Q (F0 m (pc + 3) ls (.long v :: rest))) : W p l e R s m args below meth c H locs cells slots Q (F0 m pc ls rest) :=
  lv_ldc2 hc.1.1 hc.1.2.1 hc.1.2.2.2.1 (hc.1.2.2.2.2 _ hl) hdg kk
/-- Math -/
def xminI (x y : Int32) : Int32 := if y < x then y else x
def xminL (x y : Int64) : Int64 := if y < x then y else x
def xmaxL (x y : Int64) : Int64 := if y < x then x else y
def xMmI (own : String) (index : Nat) : Prop := Cond.methodLink own index Lib.Math.min.name ∈ gW ∧ Cond.static Lib.Math.min.name ∈ gW ∧ Cond.initialized "java/lang/Math" ∈ gW ∧ Cond.code Lib.Math.min.name Lib.Math.min.code 2 (some .int) ∈ gW
def xMmL (own : String) (index : Nat) : Prop := Cond.methodLink own index Lib.MathLoose.min_long.x ∈ gW ∧ Cond.static Lib.MathLoose.min_long.x ∈ gW ∧ Cond.initialized "java/lang/Math" ∈ gW ∧ Cond.code Lib.MathLoose.min_long.x Lib.MathLoose.min_long.code 4 (some .long) ∈ gW
def xMxL (own : String) (index : Nat) : Prop := Cond.methodLink own index Lib.MathLoose.max_long.x ∈ gW ∧ Cond.static Lib.MathLoose.max_long.x ∈ gW ∧ Cond.initialized "java/lang/Math" ∈ gW ∧ Cond.code Lib.MathLoose.max_long.x Lib.MathLoose.max_long.code 4 (some .long) ∈ gW
theorem x_minI (hc : xC κ A p s m args meth c cc own nL ret) (hsz : ls.size = nL) {index : Nat} (hl : xMmI own index) {x y : Int32} (hR : 1 ≤ R.frames ∧ (rest.map fun v => v.category).sum + 13 ≤ R.locals) (hcs : cells ≤ R.cells ∧ slots ≤ R.slots) (hdg : decode cc pc = .ok (.invokestatic index, 3))
    (kk : W p l e R s m args below meth c H locs cells slots Q (F0 m (pc + 3) ls (.int (xminI x y) :: rest))) : W p l e R s m args below meth c H locs cells slots Q (F0 m pc ls (.int y :: .int x :: rest)) := by
  obtain ⟨⟨hx, hb, hml, hown, hts⟩, -⟩ := hc
  exact va_mmin hx hb (hml.trans hsz.symm) hown (hts _ hl.1) (hts _ hl.2.1) (hts _ hl.2.2.1) (hts _ hl.2.2.2) hR.1 hR.2 hcs.1 hcs.2 hdg kk
theorem x_minL (hc : xC κ A p s m args meth c cc own nL ret) (hsz : ls.size = nL) {index : Nat} (hl : xMmL own index) {x y : Int64} (hR : 1 ≤ R.frames ∧ (rest.map fun v => v.category).sum + 15 ≤ R.locals) (hcs : cells ≤ R.cells ∧ slots ≤ R.slots) (hdg : decode cc pc = .ok (.invokestatic index, 3))
    (kk : W p l e R s m args below meth c H locs cells slots Q (F0 m (pc + 3) ls (.long (xminL x y) :: rest))) : W p l e R s m args below meth c H locs cells slots Q (F0 m pc ls (.long y :: .long x :: rest)) := by
  obtain ⟨⟨hx, hb, hml, hown, hts⟩, -⟩ := hc
  exact va_mmin_long hx hb (hml.trans hsz.symm) hown (hts _ hl.1) (hts _ hl.2.1) (hts _ hl.2.2.1) (hts _ hl.2.2.2) hR.1 hR.2 hcs.1 hcs.2 hdg kk
theorem x_maxL (hc : xC κ A p s m args meth c cc own nL ret) (hsz : ls.size = nL) {index : Nat} (hl : xMxL own index) {x y : Int64} (hR : 1 ≤ R.frames ∧ (rest.map fun v => v.category).sum + 15 ≤ R.locals) (hcs : cells ≤ R.cells ∧ slots ≤ R.slots) (hdg : decode cc pc = .ok (.invokestatic index, 3))
    (kk : W p l e R s m args below meth c H locs cells slots Q (F0 m (pc + 3) ls (.long (xmaxL x y) :: rest))) : W p l e R s m args below meth c H locs cells slots Q (F0 m pc ls (.long y :: .long x :: rest)) := by
  obtain ⟨⟨hx, hb, hml, hown, hts⟩, -⟩ := hc
  exact va_mmax_long hx hb (hml.trans hsz.symm) hown (hts _ hl.1) (hts _ hl.2.1) (hts _ hl.2.2.1) (hts _ hl.2.2.2) hR.1 hR.2 hcs.1 hcs.2 hdg kk
/-- a whole row is copied -/
def xAcp (own : String) (index : Nat) : Prop := Cond.methodLink own index arraycopyName ∈ gW ∧ Cond.native arraycopyName ∈ gW ∧ Cond.static arraycopyName ∈ gW ∧ Cond.initialized "java/lang/System" ∈ gW
theorem x_resetP {D : va_G} {cl : List vw_C} {σ : sW} {q1 a : Nat} {e1 e2 : va_E} (h : va_P D cl ((xWs κ σ).set q1 (a, e1)) H) (hq : q1 < 256) (he : ∀ H, va_at D cl (a, e1) H → va_at D cl (a, e2) H) : va_P D cl ((xWs κ σ).set q1 (a, e2)) H := by
  intro k q hk
  by_cases hkq : k = q1
  · subst hkq
    rw [List.getElem?_set_self (by rw [x_len]; exact hq)] at hk
    cases hk
    exact he H (h k _ (by rw [List.getElem?_set_self (by rw [x_len]; exact hq)]))
  · rw [List.getElem?_set_ne (Ne.symm hkq)] at hk
    exact h k q (by rw [List.getElem?_set_ne (Ne.symm hkq)]; exact hk)
theorem x_copyi (hc : xC κ A p s m args meth c cc own nL ret) (hw : xW κ A s σ H locs) (hsz : ls.size = nL) {index : Nat} (hl : xAcp own index) {q0 q1 n : Nat} {f g : Nat → Int32} (h0 : xCl κ σ q0 (.inl (xcI κ, n, .inl f))) (h1 : xCl κ σ q1 (.inl (xcI κ, n, .inl g))) {v : Int32} (hv : ¬ v < 0 ∧ v.toNatClampNeg = n) (hset : xSet κ σ q1 (.inl (xcI κ, n, .inl f)) σ') (hR : 1 ≤ R.frames ∧ (rest.map fun v => v.category).sum + (nativeFrameWords "java/lang/System" "arraycopy" 5 + 11) ≤ R.locals) (hdg : decode cc pc = .ok (.invokestatic index, 3))
    (kk : ∀ (H : Heap) (locs : List Loc), xW κ A s σ' H locs → W p l e R s m args below meth c H locs cells slots Q (F0 m (pc + 3) ls rest)) : W p l e R s m args below meth c H locs cells slots Q (F0 m pc ls (.int v :: .int 0 :: .ref (xAd κ q1) :: .int 0 :: .ref (xAd κ q0) :: rest)) := by
  obtain ⟨⟨hx, hb, hml, hown, hts⟩, -, -, hK, -, -, hi, hA, -⟩ := hc
  have z0 : (0 : Int32).toNatClampNeg = 0 := rfl
  refine va_copyi hx hb (hml.trans hsz.symm) hown (hts _ hl.1) (hts _ hl.2.1) (hts _ hl.2.2.1) (hts _ hl.2.2.2) hK hw.1 (x_D hi hA) hw.2 q0 q1 0 0 (ty := .int) (x_at h0) (x_at h1) rfl rfl (by decide) (by decide) (by decide) hv.1 (by rw [z0, hv.2]; omega) (by rw [z0, hv.2]; omega) (fun i _ => rfl) hR.1 hR.2 hdg (fun H1 locs1 a b d => ?_)
  refine kk H1 locs1 ⟨?_, d⟩
  rw [← x_set hset]
  refine x_resetP a h1.1 (fun H2 h2 => ?_)
  rw [z0, hv.2] at h2
  have e : vp_cell (xcI κ) (n, .inl (va_cpy f g 0 0 n)) = vp_cell (xcI κ) (n, .inl f) := by
    rw [vp_cell_i, vp_cell_i]
    unfold arrV
    congr 2
    funext j
    have hj : j.val < n := j.isLt
    simp [va_cpy, hj]
  show H2[xAd κ q1]? = some (vp_cell (xcI κ) (n, .inl f))
  rw [← e]
  exact h2
/-- a static row is copied into a whole row of four -/
theorem x_copyS (hc : xC κ A p s m args meth c cc own nL ret) (hw : xW κ A s σ H locs) (hsz : ls.size = nL) {index : Nat} (hl : xAcp own index) {t q1 : Nat} {f g : Nat → Int32} (h0 : xTT (xcI κ) t f A s.heap) (h1 : xCl κ σ q1 (.inl (xcI κ, 4, .inl g))) (hset : xSet κ σ q1 (.inl (xcI κ, 4, .inl f)) σ') (hR : 1 ≤ R.frames ∧ (rest.map fun v => v.category).sum + (nativeFrameWords "java/lang/System" "arraycopy" 5 + 11) ≤ R.locals) (hdg : decode cc pc = .ok (.invokestatic index, 3))
    (kk : ∀ (H : Heap) (locs : List Loc), xW κ A s σ' H locs → W p l e R s m args below meth c H locs cells slots Q (F0 m (pc + 3) ls rest)) : W p l e R s m args below meth c H locs cells slots Q (F0 m pc ls (.int 4 :: .int 0 :: .ref (xAd κ q1) :: .int 0 :: .ref t :: rest)) := by
  obtain ⟨⟨hx, hb, hml, hown, hts⟩, -, -, hK, -, -, hi, hA, -⟩ := hc
  have z0 : (0 : Int32).toNatClampNeg = 0 := rfl
  have z4 : (4 : Int32).toNatClampNeg = 4 := rfl
  obtain ⟨r1, r2, r3⟩ := h0.row (hK.2 0 (xcI κ, .int) rfl).1
  refine va_copyx hx hb (hml.trans hsz.symm) hown (hts _ hl.1) (hts _ hl.2.1) (hts _ hl.2.2.1) (hts _ hl.2.2.2) hK hw.1 (x_D hi hA) hw.2 r1 r2 r3 q1 0 (x_at h1) rfl (by decide) (by decide) (by decide) (by decide) (by decide) hR.1 hR.2 hdg (fun H1 locs1 a b d => ?_)
  refine kk H1 locs1 ⟨?_, d⟩
  rw [← x_set hset]
  refine x_resetP a h1.1 (fun H2 h2 => ?_)
  rw [z0, z4] at h2
  have e : vp_cell (xcI κ) (4, .inl (va_cpy f g 0 0 4)) = vp_cell (xcI κ) (4, .inl f) := by
    rw [vp_cell_i, vp_cell_i]
    unfold arrV
    congr 2
    funext j
    have hj : j.val < 4 := j.isLt
    simp [va_cpy, hj]
  show H2[xAd κ q1]? = some (vp_cell (xcI κ) (4, .inl f))
  rw [← e]
  exact h2
theorem x_r0 (hc : xC κ A p s m args meth c cc own nL ret) : xTT (xcI κ) (xTr κ) xRate0 A s.heap := hc.2.2.2.2.1.2.2.2.2.2.1
theorem x_t0 (hc : xC κ A p s m args meth c cc own nL ret) : xTT (xcI κ) (xTt κ) xTier0 A s.heap := hc.2.2.2.2.1.2.2.2.2.2.2.2
theorem x_copyl (hc : xC κ A p s m args meth c cc own nL ret) (hw : xW κ A s σ H locs) (hsz : ls.size = nL) {index : Nat} (hl : xAcp own index) {q0 q1 n : Nat} {f g : Nat → Int64} (h0 : xCl κ σ q0 (.inl (xcJ κ, n, .inr (.inl f)))) (h1 : xCl κ σ q1 (.inl (xcJ κ, n, .inr (.inl g)))) {v : Int32} (hv : ¬ v < 0 ∧ v.toNatClampNeg = n) (hset : xSet κ σ q1 (.inl (xcJ κ, n, .inr (.inl f))) σ') (hR : 1 ≤ R.frames ∧ (rest.map fun v => v.category).sum + (nativeFrameWords "java/lang/System" "arraycopy" 5 + 11) ≤ R.locals) (hdg : decode cc pc = .ok (.invokestatic index, 3))
    (kk : ∀ (H : Heap) (locs : List Loc), xW κ A s σ' H locs → W p l e R s m args below meth c H locs cells slots Q (F0 m (pc + 3) ls rest)) : W p l e R s m args below meth c H locs cells slots Q (F0 m pc ls (.int v :: .int 0 :: .ref (xAd κ q1) :: .int 0 :: .ref (xAd κ q0) :: rest)) := by
  obtain ⟨⟨hx, hb, hml, hown, hts⟩, -, -, hK, -, -, hi, hA, -⟩ := hc
  have z0 : (0 : Int32).toNatClampNeg = 0 := rfl
  refine va_copyl hx hb (hml.trans hsz.symm) hown (hts _ hl.1) (hts _ hl.2.1) (hts _ hl.2.2.1) (hts _ hl.2.2.2) hK hw.1 (x_D hi hA) hw.2 q0 q1 1 1 (ty := .long) (x_at h0) (x_at h1) rfl rfl (by decide) (by decide) (by decide) hv.1 (by rw [z0, hv.2]; omega) (by rw [z0, hv.2]; omega) (fun i _ => rfl) hR.1 hR.2 hdg (fun H1 locs1 a b d => ?_)
  refine kk H1 locs1 ⟨?_, d⟩
  rw [← x_set hset]
  refine x_resetP a h1.1 (fun H2 h2 => ?_)
  rw [z0, hv.2] at h2
  have e : vp_cell (xcJ κ) (n, .inr (.inl (va_cpy f g 0 0 n))) = vp_cell (xcJ κ) (n, .inr (.inl f)) := by
    rw [vp_cell_l, vp_cell_l]
    unfold arrV
    congr 2
    funext j
    have hj : j.val < n := j.isLt
    simp [va_cpy, hj]
  show H2[xAd κ q1]? = some (vp_cell (xcJ κ) (n, .inr (.inl f)))
  rw [← e]
  exact h2
end XROWS2
