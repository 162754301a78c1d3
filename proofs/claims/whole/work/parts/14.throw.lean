def xSup : List String := ["java/lang/RuntimeException", "java/lang/Exception"]
def xIc (n : Nat) : Nat := match n with
  | 1 => 160
  | 2 => 76
  | 3 => 79
  | 4 => 337
  | 5 => 150
  | _ => 296
theorem x_at0L {own own0 : String} {ic ic0 : Nat} {X : String} : ∀ w ∈ vx_at0 own ic X xSup, w = Cond.methodLink own ic (Bundle.init0 X) ∨ w ∈ vx_at0 own0 ic0 X xSup := by
  intro w h
  simp only [vx_at0, Bundle.ownAtoms0, List.mem_filter, List.mem_append, List.mem_cons (a := w)] at h ⊢
  obtain ⟨h1, h2⟩ := h
  rcases h1 with h1 | h1 | h1
  · exact Or.inr ⟨Or.inl h1, h2⟩
  · exact Or.inl h1
  · exact Or.inr ⟨Or.inr (Or.inr h1), h2⟩
theorem x_at0D : [1, 2, 3, 4, 5, 6].all (fun n => (vx_at0 RX7 (xIc n) (xEx n) xSup).all (fun w => (goodWord w && decide (w ∈ tables_1)) || xEd.any (fun x => decide (w = Cond.declares x)) || decide (w = Cond.castable (xEx n) (xEx n)))) = true := by decide +kernel
def xTk (own : String) (ik ic ec : Nat) : Prop := Cond.classLink own ik (xEx ec) ∈ gW ∧ Cond.initialized (xEx ec) ∈ gW ∧ Cond.methodLink own ic (Bundle.init0 (xEx ec)) ∈ gW
abbrev xE6 (ec : Nat) : Prop := ec ∈ [1, 2, 3, 4, 5, 6]
theorem xEx_in {ec : Nat} (h : xE6 ec) : xEx ec ∈ xNames ∧ Bundle.fit (xEx ec) = true := by
  unfold xE6 at h
  simp only [List.mem_cons, List.not_mem_nil, or_false] at h
  rcases h with rfl | rfl | rfl | rfl | rfl | rfl <;> exact ⟨by decide, by decide⟩
theorem x_hat {s : State} {args : Array Value} {own : String} {ik ic ec : Nat} (hec : xE6 ec) (hts : ∀ w ∈ gW, w.before args s = true) (hen : xEn s) (hk : xTk own ik ic ec) : ∀ w ∈ vx_at0 own ic (xEx ec) xSup, w.before args s = true ∧ vx_ot w = true := by
  intro w hw
  have good : ∀ {w : Cond}, w ∈ gW → w.before args s = true ∧ vx_ot w = true := fun {w} h => ⟨hts w h, by simp [vx_ot, (gW_good h).2]⟩
  rcases x_at0L (own0 := RX7) (ic0 := xIc ec) w hw with rfl | hw
  · exact good hk.2.2
  · have h1 := List.all_eq_true.mp (List.all_eq_true.mp x_at0D ec hec) w hw
    simp only [Bool.or_eq_true, Bool.and_eq_true, decide_eq_true_eq, List.any_eq_true] at h1
    rcases h1 with (h1 | ⟨x, hx, h1⟩) | h1
    · exact good (gW_of (List.mem_append_right _ h1.2) h1.1)
    · subst h1
      exact ⟨va_Nw.use rfl (hen.1 x hx), rfl⟩
    · subst h1
      exact ⟨va_Nw.use rfl (hen.2.1 _ (xEx_in hec).1), rfl⟩
def xTX (κ : xKt) (σ' : sW) (sz ec : Nat) : String → State → State → Prop := vx_X (fun (_ : Unit) => ¬ ec = 0) (fun E _ t => E = xEx ec ∧ va_P κ.1 xCls (xWs κ σ') t.heap) (xA κ sz)
def xTi (l : Launch) (κ : xKt) (y : MethodName) (bytes : ByteArray) (maxL : Nat) (ret : Option FieldType) (rm : Room) (av : List Value) (σ σ' : sW) (ec : Nat) (r : Int32) : Prop := l.stackTraces = false → ∀ sz, vx_Met l y (xWl y bytes maxL ret) rm (va_Pc av (xPre κ σ sz)) (va_Qi (fun r2 (_ : Unit) => ec = 0 ∧ r2 = r) (fun _ t => va_P κ.1 xCls (xWs κ σ') t.heap) (xA κ sz)) (xTX κ σ' sz ec) 1 6 (xA κ sz)
def xTl (l : Launch) (κ : xKt) (y : MethodName) (bytes : ByteArray) (maxL : Nat) (ret : Option FieldType) (rm : Room) (av : List Value) (σ σ' : sW) (ec : Nat) (r : Int64) : Prop := l.stackTraces = false → ∀ sz, vx_Met l y (xWl y bytes maxL ret) rm (va_Pc av (xPre κ σ sz)) (va_Ql (fun r2 (_ : Unit) => ec = 0 ∧ r2 = r) (fun _ t => va_P κ.1 xCls (xWs κ σ') t.heap) (xA κ sz)) (xTX κ σ' sz ec) 1 6 (xA κ sz)
def xTd (l : Launch) (κ : xKt) (y : MethodName) (bytes : ByteArray) (maxL : Nat) (ret : Option FieldType) (rm : Room) (av : List Value) (σ σ' : sW) (ec : Nat) (r : UInt64) : Prop := l.stackTraces = false → ∀ sz, vx_Met l y (xWl y bytes maxL ret) rm (va_Pc av (xPre κ σ sz)) (va_Qd (fun r2 (_ : Unit) => ec = 0 ∧ r2 = r) (fun _ t => va_P κ.1 xCls (xWs κ σ') t.heap) (xA κ sz)) (xTX κ σ' sz ec) 1 6 (xA κ sz)
def xTv (l : Launch) (κ : xKt) (y : MethodName) (bytes : ByteArray) (maxL : Nat) (ret : Option FieldType) (rm : Room) (av : List Value) (σ σ' : sW) (ec : Nat) : Prop := l.stackTraces = false → ∀ sz, vx_Met l y (xWl y bytes maxL ret) rm (va_Pc av (xPre κ σ sz)) (va_Qv (fun (_ : Unit) => ec = 0) (fun _ t => va_P κ.1 xCls (xWs κ σ') t.heap) (xA κ sz)) (xTX κ σ' sz ec) 1 6 (xA κ sz)
def xMd (l : Launch) (κ : xKt) (y : MethodName) (bytes : ByteArray) (maxL : Nat) (ret : Option FieldType) (rm : Room) (av : List Value) (σ σ' : sW) (r : UInt64) : Prop := ∀ sz, Met l y (xWl y bytes maxL ret) rm (va_Pc av (xPre κ σ sz)) (va_Qd (fun r2 (_ : Unit) => r2 = r) (fun _ t => va_P κ.1 xCls (xWs κ σ') t.heap) (xA κ sz)) 0 0 (xA κ sz)
section XTROWS
variable {κ : xKt} {A : Nat → Prop} {p : Program} {l : Launch} {e : Env} {R : Room} {s : State} {m : MethodId} {args : Array Value} {below : List Frame} {meth : Method} {c : Code} {H : Heap} {locs : List Loc} {cells slots : Nat} {Q : State → Prop}
variable {cc : ByteArray} {own : String} {nL : Nat} {ret : Option FieldType} {pc : Nat} {ls : Array Slot} {rest : List Value} {σ σ' : sW} {Qc : Array Value → State → Outcome → State → Prop}
theorem x_throwQ {n ec ik ic : Nat} (hc : xC κ A p s m args meth c cc own nL ret) (hw : xW κ A s σ' H locs) (hlt : l.stackTraces = false) (hec : xE6 ec) (hk : xTk own ik ic ec) (hno : ∀ x ∈ c.exceptionTable.toList, False) (hAx : A = xA κ s.heap.size)
    (d0 : decode cc pc = .ok (.new ik, 3)) (d3 : decode cc (pc + 3) = .ok (.dup, 1)) (d4 : decode cc (pc + 4) = .ok (.invokespecial ic, 3)) (d7 : decode cc (pc + 7) = .ok (.athrow, 1)) (hsz : ls.size = nL) (hrest : (rest.map fun v => v.category).sum ≤ 8) :
    W p l e (xR n 1 6) s m args below meth c H locs 0 0 (vx_MQ below Qc (xTX κ σ' s.heap.size ec) args s 1 6 (xA κ s.heap.size)) (F0 m pc ls rest) := by
  obtain ⟨⟨hx, hb, hml, hown, hts⟩, -, hlocks, hK, hst, hA, hi, hA2, hen⟩ := hc
  have hat := x_hat (args := args) hec hts hen hk
  refine vx_throw0 (own := own) (cls := xEx ec) (names := xSup) (ik := ik) (ic := ic) (A := A) hx hb hlt hown (xEx_in hec).2 (by decide) (hts _ hk.1) (hts _ hk.2.1) (fun w h => (hat w h).1) ?_ hst.1 hst.2.1 hw.2 (hsz.trans hml.symm) d0 d3 d4 d7 (fun x h => (hno x h).elim) ?_ ?_ ?_ ?_ hlocks ?_ ?_ ?_ ?_
  · intro w h
    rcases List.mem_cons.mp h with rfl | h
    · exact Bool.or_eq_true_iff.mpr (Or.inr (gW_good hk.1).2)
    · rcases List.mem_cons.mp h with rfl | h
      · exact Bool.or_eq_true_iff.mpr (Or.inr (gW_good hk.2.1).2)
      · exact (hat w h).2
  · show 2 + 3 < n + 8
    omega
  · show _ ≤ 150 + 40 * n
    have : (13 * (xSup.length + 1) + 42) = 81 := rfl
    omega
  · show 0 + 1 ≤ 1
    omega
  · show 0 + 6 ≤ 6
    omega
  · intro t hvm hz hq
    refine ⟨(), fun h0 => by subst h0; exact absurd hec (by unfold xE6; decide), ⟨rfl, ?_⟩, ?_⟩
    · exact hw.1.kept (fun k q hk => hq q.1 (hw.1 k q hk).lt)
    · rw [← hAx]
      exact ⟨Nat.le_trans hw.2.1 hz, fun q h1 h2 => by rw [hq q (Nat.lt_of_lt_of_le h1 hw.2.1)]; exact hw.2.2.1 q h1 h2⟩
  · intro z hz
    rw [← hAx]
    exact hw.2.2.2 z hz
  · omega
  · omega
theorem x_outQ {ec : Nat} {q : Addr} {ce : Cell} {k n : Nat} (hc : xC κ A p s m args meth c cc own nL ret) (hw : xW κ A s σ' H locs) (hec : ¬ ec = 0) (hno : ∀ x ∈ c.exceptionTable.toList, False) (hAx : A = xA κ s.heap.size) (hk : k ≤ 1) (hn : n ≤ 6) (h1 : H[q]? = some ce) (h2 : ce.vm = .none) (h3 : s.vm.findClass (xEx ec) = some ce.cls) :
    vx_W p l e R s m args below meth c H locs k n (vx_MQ below Qc (xTX κ σ' s.heap.size ec) args s 1 6 (xA κ s.heap.size)) (F0 m pc ls rest) q := by
  refine vx_out (fun x h => (hno x h).elim) hc.2.2.1 h1 h2 h3 (fun t ht hvm => ?_) (fun z hz => by rw [← hAx]; exact hw.2.2.2 z hz) hk hn
  refine ⟨(), hec, ⟨rfl, by rw [ht]; exact hw.1⟩, ?_⟩
  rw [← hAx]
  exact hw.2.F ht
end XTROWS
/-- the three ways out of a method that may throw -/
def xKX (l : Launch) (κ : xKt) (A : Nat → Prop) (p : Program) (e : Env) (rm : Room) (s : State) (m : MethodId) (args : Array Value) (below : List Frame) (meth : Method) (c : Code) (Q : State → Prop) (own : String) (bytes : ByteArray) (maxL : Nat) (σ' : sW) (ec : Nat) : Prop :=
  ∀ (pc : Nat) (ls : Array Slot) (rest : List Value) (H : Heap) (locs : List Loc) (ik ic : Nat), xE6 ec → xTk own ik ic ec → decode bytes pc = .ok (.new ik, 3) → decode bytes (pc + 3) = .ok (.dup, 1) → decode bytes (pc + 4) = .ok (.invokespecial ic, 3) → decode bytes (pc + 7) = .ok (.athrow, 1) → ls.size = maxL → (rest.map fun v => v.category).sum ≤ 8 → xW κ A s σ' H locs → W p l e rm s m args below meth c H locs 0 0 Q (F0 m pc ls rest)
def xKO (l : Launch) (κ : xKt) (A : Nat → Prop) (p : Program) (e : Env) (rm : Room) (s : State) (m : MethodId) (args : Array Value) (below : List Frame) (meth : Method) (c : Code) (Q : State → Prop) (σ' : sW) (ec : Nat) : Prop :=
  ∀ (pc : Nat) (ls : Array Slot) (rest : List Value) (H : Heap) (locs : List Loc) (q : Addr) (ce : Cell) (k n : Nat), k ≤ 1 → n ≤ 6 → ¬ ec = 0 → xW κ A s σ' H locs → H[q]? = some ce → ce.vm = .none → s.vm.findClass (xEx ec) = some ce.cls → vx_W p l e rm s m args below meth c H locs k n Q (F0 m pc ls rest) q
theorem xTi_of {l : Launch} {κ : xKt} {y : MethodName} {bytes : ByteArray} {maxL : Nat} {rt : FieldType} {lv : Nat} {av : List Value} {σ σ' : sW} {ec : Nat} {r : Int32} (hy : plainName y.cls = true) (hn : (lg_sl av).length ≤ maxL)
    (body : ∀ (A : Nat → Prop) (p : Program) (e : Env) (s : State) (m : MethodId) (args : Array Value) (below : List Frame) (meth : Method) (c : Code) (ls : Array Slot) (Q : State → Prop), l.stackTraces = false → xC κ A p s m args meth c bytes y.cls maxL (some rt) → xW κ A s σ s.heap [] → lv_has ls maxL (lv_args 0 av) →
      (∀ (pc : Nat) (ls : Array Slot) (H : Heap) (locs : List Loc) (k n : Nat), k ≤ 1 → n ≤ 6 → decode bytes pc = .ok (.ireturn, 1) → narrow rt (.int r) = .int r → ec = 0 → xW κ A s σ' H locs → W p l e (xR lv 1 6) s m args below meth c H locs k n Q (F0 m pc ls [.int r])) →
      xKX l κ A p e (xR lv 1 6) s m args below meth c Q y.cls bytes maxL σ' ec → xKO l κ A p e (xR lv 1 6) s m args below meth c Q σ' ec →
      W p l e (xR lv 1 6) s m args below meth c s.heap [] 0 0 Q (F0 m 0 ls [])) : xTi l κ y bytes maxL (some rt) (xR lv 1 6) av σ σ' ec r := by
  intro hlt sz
  refine vx_ofW (cc := bytes) (maxL := maxL) (ret := some rt) hy rfl ?_
  intro p e s m args below meth c s₁ B hml hno hv
  obtain ⟨rfl, rfl, hc, hw⟩ := x_ctx B hml hv
  have hl := lv_entry av (n := maxL) hn
  rw [lg_entry_eq]
  generalize (lg_sl av ++ List.replicate (maxL - (lg_sl av).length) Slot.unset).toArray = ls at hl ⊢
  refine body (xA κ s.heap.size) p e s m _ below meth c ls _ hlt hc hw hl ?_ ?_ ?_
  · intro pc ls H locs k n hk1 hn1 hd hn hec hw1
    exact vx_ret (W.widen hk1 hn1 (W.zret (ty := rt) hc.1.1 hc.1.2.1 hc.2.1 hn (fun t ht _ => ⟨⟨r, (), rfl, ⟨hec, rfl⟩, by show va_P _ _ _ t.heap; rw [ht]; exact hw1.1⟩, hw1.2.F ht⟩) hw1.2.2.2 hd hc.2.2.1))
  · intro pc ls rest H locs ik ic hec hk d0 d3 d4 d7 hsz hrest hw1
    exact x_throwQ hc hw1 hlt hec hk hno rfl d0 d3 d4 d7 hsz hrest
  · intro pc ls rest H locs q ce k n hk hn hec hw1 h1 h2 h3
    exact x_outQ hc hw1 hec hno rfl hk hn h1 h2 h3
theorem xTl_of {l : Launch} {κ : xKt} {y : MethodName} {bytes : ByteArray} {maxL : Nat} {lv : Nat} {av : List Value} {σ σ' : sW} {ec : Nat} {r : Int64} (hy : plainName y.cls = true) (hn : (lg_sl av).length ≤ maxL)
    (body : ∀ (A : Nat → Prop) (p : Program) (e : Env) (s : State) (m : MethodId) (args : Array Value) (below : List Frame) (meth : Method) (c : Code) (ls : Array Slot) (Q : State → Prop), l.stackTraces = false → xC κ A p s m args meth c bytes y.cls maxL (some .long) → xW κ A s σ s.heap [] → lv_has ls maxL (lv_args 0 av) →
      (∀ (pc : Nat) (ls : Array Slot) (H : Heap) (locs : List Loc) (k n : Nat), k ≤ 1 → n ≤ 6 → decode bytes pc = .ok (.lreturn, 1) → ec = 0 → xW κ A s σ' H locs → W p l e (xR lv 1 6) s m args below meth c H locs k n Q (F0 m pc ls [.long r])) →
      xKX l κ A p e (xR lv 1 6) s m args below meth c Q y.cls bytes maxL σ' ec → xKO l κ A p e (xR lv 1 6) s m args below meth c Q σ' ec →
      W p l e (xR lv 1 6) s m args below meth c s.heap [] 0 0 Q (F0 m 0 ls [])) : xTl l κ y bytes maxL (some .long) (xR lv 1 6) av σ σ' ec r := by
  intro hlt sz
  refine vx_ofW (cc := bytes) (maxL := maxL) (ret := some .long) hy rfl ?_
  intro p e s m args below meth c s₁ B hml hno hv
  obtain ⟨rfl, rfl, hc, hw⟩ := x_ctx B hml hv
  have hl := lv_entry av (n := maxL) hn
  rw [lg_entry_eq]
  generalize (lg_sl av ++ List.replicate (maxL - (lg_sl av).length) Slot.unset).toArray = ls at hl ⊢
  refine body (xA κ s.heap.size) p e s m _ below meth c ls _ hlt hc hw hl ?_ ?_ ?_
  · intro pc ls H locs k n hk1 hn1 hd hec hw1
    exact vx_ret (W.widen hk1 hn1 (W.lret hc.1.1 hc.1.2.1 hc.2.1 (fun t ht _ => ⟨⟨r, (), rfl, ⟨hec, rfl⟩, by show va_P _ _ _ t.heap; rw [ht]; exact hw1.1⟩, hw1.2.F ht⟩) hw1.2.2.2 hd hc.2.2.1))
  · intro pc ls rest H locs ik ic hec hk d0 d3 d4 d7 hsz hrest hw1
    exact x_throwQ hc hw1 hlt hec hk hno rfl d0 d3 d4 d7 hsz hrest
  · intro pc ls rest H locs q ce k n hk hn hec hw1 h1 h2 h3
    exact x_outQ hc hw1 hec hno rfl hk hn h1 h2 h3
theorem xTd_of {l : Launch} {κ : xKt} {y : MethodName} {bytes : ByteArray} {maxL : Nat} {lv : Nat} {av : List Value} {σ σ' : sW} {ec : Nat} {r : UInt64} (hy : plainName y.cls = true) (hn : (lg_sl av).length ≤ maxL)
    (body : ∀ (A : Nat → Prop) (p : Program) (e : Env) (s : State) (m : MethodId) (args : Array Value) (below : List Frame) (meth : Method) (c : Code) (ls : Array Slot) (Q : State → Prop), l.stackTraces = false → xC κ A p s m args meth c bytes y.cls maxL (some .double) → xW κ A s σ s.heap [] → lv_has ls maxL (lv_args 0 av) →
      (∀ (pc : Nat) (ls : Array Slot) (H : Heap) (locs : List Loc) (k n : Nat), k ≤ 1 → n ≤ 6 → decode bytes pc = .ok (.dreturn, 1) → ec = 0 → xW κ A s σ' H locs → W p l e (xR lv 1 6) s m args below meth c H locs k n Q (F0 m pc ls [.double r])) →
      xKX l κ A p e (xR lv 1 6) s m args below meth c Q y.cls bytes maxL σ' ec → xKO l κ A p e (xR lv 1 6) s m args below meth c Q σ' ec →
      W p l e (xR lv 1 6) s m args below meth c s.heap [] 0 0 Q (F0 m 0 ls [])) : xTd l κ y bytes maxL (some .double) (xR lv 1 6) av σ σ' ec r := by
  intro hlt sz
  refine vx_ofW (cc := bytes) (maxL := maxL) (ret := some .double) hy rfl ?_
  intro p e s m args below meth c s₁ B hml hno hv
  obtain ⟨rfl, rfl, hc, hw⟩ := x_ctx B hml hv
  have hl := lv_entry av (n := maxL) hn
  rw [lg_entry_eq]
  generalize (lg_sl av ++ List.replicate (maxL - (lg_sl av).length) Slot.unset).toArray = ls at hl ⊢
  refine body (xA κ s.heap.size) p e s m _ below meth c ls _ hlt hc hw hl ?_ ?_ ?_
  · intro pc ls H locs k n hk1 hn1 hd hec hw1
    exact vx_ret (W.widen hk1 hn1 (W.dret hc.1.1 hc.1.2.1 hc.2.1 (fun t ht _ => ⟨⟨r, (), rfl, ⟨hec, rfl⟩, by show va_P _ _ _ t.heap; rw [ht]; exact hw1.1⟩, hw1.2.F ht⟩) hw1.2.2.2 hd hc.2.2.1))
  · intro pc ls rest H locs ik ic hec hk d0 d3 d4 d7 hsz hrest hw1
    exact x_throwQ hc hw1 hlt hec hk hno rfl d0 d3 d4 d7 hsz hrest
  · intro pc ls rest H locs q ce k n hk hn hec hw1 h1 h2 h3
    exact x_outQ hc hw1 hec hno rfl hk hn h1 h2 h3
theorem xTv_of {l : Launch} {κ : xKt} {y : MethodName} {bytes : ByteArray} {maxL : Nat} {lv : Nat} {av : List Value} {σ σ' : sW} {ec : Nat} (hy : plainName y.cls = true) (hn : (lg_sl av).length ≤ maxL)
    (body : ∀ (A : Nat → Prop) (p : Program) (e : Env) (s : State) (m : MethodId) (args : Array Value) (below : List Frame) (meth : Method) (c : Code) (ls : Array Slot) (Q : State → Prop), l.stackTraces = false → xC κ A p s m args meth c bytes y.cls maxL none → xW κ A s σ s.heap [] → lv_has ls maxL (lv_args 0 av) →
      (∀ (pc : Nat) (ls : Array Slot) (H : Heap) (locs : List Loc) (k n : Nat), k ≤ 1 → n ≤ 6 → decode bytes pc = .ok (.return_, 1) → ec = 0 → xW κ A s σ' H locs → W p l e (xR lv 1 6) s m args below meth c H locs k n Q (F0 m pc ls [])) →
      xKX l κ A p e (xR lv 1 6) s m args below meth c Q y.cls bytes maxL σ' ec → xKO l κ A p e (xR lv 1 6) s m args below meth c Q σ' ec →
      W p l e (xR lv 1 6) s m args below meth c s.heap [] 0 0 Q (F0 m 0 ls [])) : xTv l κ y bytes maxL none (xR lv 1 6) av σ σ' ec := by
  intro hlt sz
  refine vx_ofW (cc := bytes) (maxL := maxL) (ret := none) hy rfl ?_
  intro p e s m args below meth c s₁ B hml hno hv
  obtain ⟨rfl, rfl, hc, hw⟩ := x_ctx B hml hv
  have hl := lv_entry av (n := maxL) hn
  rw [lg_entry_eq]
  generalize (lg_sl av ++ List.replicate (maxL - (lg_sl av).length) Slot.unset).toArray = ls at hl ⊢
  refine body (xA κ s.heap.size) p e s m _ below meth c ls _ hlt hc hw hl ?_ ?_ ?_
  · intro pc ls H locs k n hk1 hn1 hd hec hw1
    exact vx_ret (W.widen hk1 hn1 (W.vret hc.1.1 hc.1.2.1 hc.2.1 (fun t ht _ => ⟨⟨(), rfl, hec, by show va_P _ _ _ t.heap; rw [ht]; exact hw1.1⟩, hw1.2.F ht⟩) hw1.2.2.2 hd hc.2.2.1))
  · intro pc ls rest H locs ik ic hec hk d0 d3 d4 d7 hsz hrest hw1
    exact x_throwQ hc hw1 hlt hec hk hno rfl d0 d3 d4 d7 hsz hrest
  · intro pc ls rest H locs q ce k n hk hn hec hw1 h1 h2 h3
    exact x_outQ hc hw1 hec hno rfl hk hn h1 h2 h3
theorem xMd_of {l : Launch} {κ : xKt} {y : MethodName} {bytes : ByteArray} {maxL : Nat} {rm : Room} {av : List Value} {σ σ' : sW} {r : UInt64} (hy : plainName y.cls = true) (hn : (lg_sl av).length ≤ maxL) (hrm : rm.cells = 0 ∧ rm.slots = 0)
    (body : ∀ (A : Nat → Prop) (p : Program) (e : Env) (s : State) (m : MethodId) (args : Array Value) (below : List Frame) (meth : Method) (c : Code) (ls : Array Slot) (Q : State → Prop), xC κ A p s m args meth c bytes y.cls maxL (some .double) → xW κ A s σ s.heap [] → lv_has ls maxL (lv_args 0 av) →
      (∀ (pc : Nat) (ls : Array Slot) (H : Heap) (locs : List Loc), decode bytes pc = .ok (.dreturn, 1) → xW κ A s σ' H locs → W p l e rm s m args below meth c H locs 0 0 Q (F0 m pc ls [.double r])) → W p l e rm s m args below meth c s.heap [] 0 0 Q (F0 m 0 ls [])) : xMd l κ y bytes maxL (some .double) rm av σ σ' r := by
  intro sz
  refine Met.ofW (cc := bytes) (maxL := maxL) (ret := some .double) hy rfl ?_
  intro p e s m args below meth c s₁ B hml hv
  obtain ⟨rfl, rfl, hc, hw⟩ := x_ctx B hml hv
  have hl := lv_entry av (n := maxL) hn
  rw [lg_entry_eq]
  generalize (lg_sl av ++ List.replicate (maxL - (lg_sl av).length) Slot.unset).toArray = ls at hl ⊢
  refine body (xA κ s.heap.size) p e s m _ below meth c ls _ hc hw hl ?_
  intro pc ls H locs hd hw1
  exact W.dret hc.1.1 hc.1.2.1 hc.2.1 (fun t ht _ => ⟨⟨r, (), rfl, rfl, by show va_P _ _ _ t.heap; rw [ht]; exact hw1.1⟩, hw1.2.F ht⟩) hw1.2.2.2 hd hc.2.2.1
