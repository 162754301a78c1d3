-- constructors: a world of the object and what it makes
def iEn (U : State) : Prop := xEn U ∧ va_AO "ArbitrationFees$Accounts" U ∧ va_Nw (.castable "[I" "java/lang/Cloneable") U
theorem iEn.warm {s U : State} (hW : s.WarmedH U.vm) (h : iEn s) : iEn U := ⟨xEn.warm hW h.1, va_AO.moved hW.alike h.2.1, h.2.2.warmC hW⟩
theorem iEn.same {s U : State} (hW : s.vm = U.vm) (h : iEn s) : iEn U := ⟨xEn.same hW h.1, va_AO.moved (by rw [hW]; exact Vm.Alike.refl U.vm) h.2.1, h.2.2.same rfl hW⟩
def iC (κ : xKt) (A : Nat → Prop) (p : Program) (s : State) (m : MethodId) (args : Array Value) (meth : Method) (c : Code) (cc : ByteArray) (own : String) (nL : Nat) : Prop := CallFix p m c cc nL s args gW own ∧ meth.sig.returnType = none ∧ meth.locks = false ∧ meth.name = "<init>" ∧ va_K κ.1 xCls (xTys κ) s ∧ (∀ q, s.heap.size ≤ q → A q) ∧ iEn s ∧ xS2 κ A s s.heap
def iW (κ : xKt) (A : Nat → Prop) (s : State) (ws : va_W) (H : Heap) (locs : List Loc) : Prop := va_P κ.1 xCls ws H ∧ va_D A ws ∧ va_S A s.heap H locs
def iPre (κ : xKt) (b ci : Nat) (fs : List Value) (sz : Nat) (U : State) : Prop := U.heap.size = sz ∧ va_P κ.1 xCls [(b, .inr (ci, fs))] U.heap ∧ va_K κ.1 xCls (xTys κ) U ∧ va_D (fun _ => True) [(b, .inr (ci, fs))] ∧ iEn U ∧ xS2 κ (va_A [(b, .inr (ci, fs))] sz) U U.heap
def iWs (n : Nat) (sh : (Nat → Nat) → Nat → va_E) (g : Nat → Nat) : va_W := (List.range n).map (fun j => (g j, sh g j))
def iPost (κ : xKt) (b n : Nat) (sh : (Nat → Nat) → Nat → va_E) (A : Nat → Prop) (t : State) : Prop := ∃ g : Nat → Nat, g 0 = b ∧ va_P κ.1 xCls (iWs n sh g) t.heap ∧ va_D A (iWs n sh g)
def iM (l : Launch) (κ : xKt) (y : MethodName) (bytes : ByteArray) (maxL : Nat) (rm : Room) (ci : Nat) (fs : List Value) (n : Nat) (sh : (Nat → Nat) → Nat → va_E) (mc ms : Nat) : Prop := ∀ b sz, Met l y (xWl y bytes maxL none) rm (va_Pc [.ref b] (iPre κ b ci fs sz)) (va_Qv (fun _ : Unit => True) (fun _ t => iPost κ b n sh (va_A [(b, .inr (ci, fs))] sz) t) (va_A [(b, .inr (ci, fs))] sz)) mc ms (va_A [(b, .inr (ci, fs))] sz)
theorem iM_of {l : Launch} {κ : xKt} {y : MethodName} {bytes : ByteArray} {maxL : Nat} {rm : Room} {ci : Nat} {fs : List Value} {n : Nat} {sh : (Nat → Nat) → Nat → va_E} {mc ms : Nat} (hy : plainName y.cls = true) (hy1 : y.name = "<init>") (hn : 1 ≤ maxL)
    (body : ∀ (b : Nat) (A : Nat → Prop) (p : Program) (e : Env) (s : State) (m : MethodId) (args : Array Value) (below : List Frame) (meth : Method) (c : Code) (ls : Array Slot) (Q : State → Prop), iC κ A p s m args meth c bytes y.cls maxL → iW κ A s [(b, .inr (ci, fs))] s.heap [] → lv_has ls maxL [(0, .ref b)] →
      (∀ (pc : Nat) (ls : Array Slot) (H : Heap) (locs : List Loc) (g : Nat → Nat), decode bytes pc = .ok (.return_, 1) → g 0 = b → iW κ A s (iWs n sh g) H locs → W p l e rm s m args below meth c H locs mc ms Q (F0 m pc ls [])) → W p l e rm s m args below meth c s.heap [] 0 0 Q (F0 m 0 ls [])) : iM l κ y bytes maxL rm ci fs n sh mc ms := by
  intro b sz
  refine Met.ofW (cc := bytes) (maxL := maxL) (ret := none) hy rfl ?_
  intro p e s m args below meth c s₁ B hml hv
  obtain ⟨rfl, hsz, hP, hK, hD0, hEn⟩ := hv
  subst hsz
  have hts := atoms_spec (ws := xWl y bytes maxL none) B.pre
  have hl := lv_entry ([.ref b]) (n := maxL) hn
  rw [lg_entry_eq]
  generalize (lg_sl ([.ref b]) ++ List.replicate (maxL - (lg_sl ([.ref b])).length) Slot.unset).toArray = ls at hl ⊢
  refine body b (va_A [(b, .inr (ci, fs))] s.heap.size) p e s m _ below meth c ls _ ⟨⟨B.exec, B.bytes, hml, findClass_of_methodNamed B.named, fun w hw => hts w (List.mem_cons_of_mem _ hw)⟩, B.returns, B.notSynchronized, (name_of_methodNamed B.named B.method).1.trans hy1, hK, fun q h => Or.inr h, hEn⟩ ⟨hP, hD0.self, va_S.rf⟩ hl ?_
  intro pc ls H locs g hd hg hw
  exact W.vret B.exec B.bytes B.returns (fun t ht _ => ⟨⟨(), rfl, trivial, g, hg, by rw [ht]; exact hw.1, hw.2.1⟩, hw.2.2.F ht⟩) hw.2.2.2.2 hd B.notSynchronized
section IRW
variable {κ : xKt} {A : Nat → Prop} {p : Program} {l : Launch} {e : Env} {R : Room} {s : State} {m : MethodId} {args : Array Value} {below : List Frame} {meth : Method} {c : Code} {H : Heap} {locs : List Loc} {cells slots : Nat} {Q : State → Prop}
variable {cc : ByteArray} {own : String} {nL : Nat} {pc : Nat} {ls : Array Slot} {rest : List Value} {ws : va_W}
theorem i_obj (hc : iC κ A p s m args meth c cc own nL) (hsz : ls.size = nL) {idx : Nat} {a : Nat} (h1 : Cond.methodLink own idx objectInit ∈ gW) (h2 : Cond.instanceMethod objectInit ∈ gW) (h3 : Cond.code objectInit ⟨#[0xb1]⟩ 1 none ∈ gW) (hR : 1 ≤ R.frames ∧ 20 ≤ R.locals) (hdg : decode cc pc = .ok (.invokespecial idx, 3))
    (kk : W p l e R s m args below meth c H locs cells slots Q (F0 m (pc + 3) ls [])) : W p l e R s m args below meth c H locs cells slots Q (F0 m pc ls [.ref a]) := by
  obtain ⟨⟨hx, hb, hml, hown, hts⟩, -⟩ := hc
  refine W.objInit hx hb hown (hts _ h1) (hts _ h2) (hts _ h3) rfl (by rw [hml]; exact hsz) rfl hdg hR.1 ?_ ?_
  · have := hR.2
    show 2 * 0 + 0 + 12 ≤ R.locals
    omega
  · exact W.eq (g2 := F0 m (pc + 3) ls []) rfl kk
theorem i_put (hc : iC κ A p s m args meth c cc own nL) (hw : iW κ A s ws H locs) (q0 : Nat) {a ci k index : Nat} {fs : List Value} {ty : FieldType} (he : ws[q0]? = some (a, .inr (ci, fs))) (hF : xFl own index ci k ty false) {v : Value} (hn : narrow ty v = v) (hfit : fits ty v = true) (hl : k < fs.length) {ws' : va_W} (hset : ws.set q0 (a, .inr (ci, fs.set k v)) = ws') (hdg : decode cc pc = .ok (.putfield index, 3))
    (kk : ∀ (H : Heap) (locs : List Loc), iW κ A s ws' H locs → W p l e R s m args below meth c H locs cells slots Q (F0 m (pc + 3) ls rest)) : W p l e R s m args below meth c H locs cells slots Q (F0 m pc ls (v :: .ref a :: rest)) := by
  obtain ⟨C, T, N, ty0, h1, h2, h3, h4, h5, h6, h7, h8, h9⟩ := hF
  obtain ⟨⟨hx, hb, hml, hown, hts⟩, -, -, -, hK, -⟩ := hc
  subst hset
  exact va_put hx hb hts h2 ty0 h6 h7 hown hK hw.1 hw.2.1 hw.2.2 q0 he h1 k h3 (hts _ h4) (by rw [h5]; exact fun _ h => h) h8 h9 hn hfit hl hdg (fun H1 locs1 a b d => kk H1 locs1 ⟨a, b, d⟩)
theorem i_putF (hc : iC κ A p s m args meth c cc own nL) (hw : iW κ A s ws H locs) (q0 : Nat) {a ci k index : Nat} {fs : List Value} {ty : FieldType} (he : ws[q0]? = some (a, .inr (ci, fs))) (hF : xFl own index ci k ty true) (hoc : ∀ C T N, xCls[ci]? = some (C, T, N) → C = own) {v : Value} (hn : narrow ty v = v) (hfit : fits ty v = true) (hl : k < fs.length) {ws' : va_W} (hset : ws.set q0 (a, .inr (ci, fs.set k v)) = ws') (hdg : decode cc pc = .ok (.putfield index, 3))
    (kk : ∀ (H : Heap) (locs : List Loc), iW κ A s ws' H locs → W p l e R s m args below meth c H locs cells slots Q (F0 m (pc + 3) ls rest)) : W p l e R s m args below meth c H locs cells slots Q (F0 m pc ls (v :: .ref a :: rest)) := by
  obtain ⟨C, T, N, ty0, h1, h2, h3, h4, h5, h6, h7, h8, h9⟩ := hF
  obtain ⟨⟨hx, hb, hml, hown, hts⟩, -, -, hin, hK, -⟩ := hc
  subst hset
  exact va_putF hx hb hts h2 ty0 h6 h7 hown hK hw.1 hw.2.1 hw.2.2 q0 he h1 k h3 (hts _ h4) (by rw [h5]; exact fun _ h => h) h8 hin (h5.trans (hoc _ _ _ h1)) h9 hn hfit hl hdg (fun H1 locs1 a b d => kk H1 locs1 ⟨a, b, d⟩)
theorem i_getsR (hc : iC κ A p s m args meth c cc own nL) (hw : iW κ A s ws H locs) {index : Nat} (hlink : Cond.fieldLink own index "ArbitrationFees$Accounts" "FIRST_RATES" "[I" ∈ gW) (hdg : decode cc pc = .ok (.getstatic index, 3))
    (kk : W p l e R s m args below meth c H locs cells slots Q (F0 m (pc + 3) ls (.ref (xTr κ) :: rest))) : W p l e R s m args below meth c H locs cells slots Q (F0 m pc ls rest) :=
  va_gets hc.1.1 hc.1.2.1 hc.2.2.2.2.2.2.2.1 hw.2.2 hc.1.2.2.2.1 (hc.1.2.2.2.2 _ hlink) (fun _ h => h) hdg kk
theorem i_getsT (hc : iC κ A p s m args meth c cc own nL) (hw : iW κ A s ws H locs) {index : Nat} (hlink : Cond.fieldLink own index "ArbitrationFees$Accounts" "FIRST_TIERS" "[I" ∈ gW) (hdg : decode cc pc = .ok (.getstatic index, 3))
    (kk : W p l e R s m args below meth c H locs cells slots Q (F0 m (pc + 3) ls (.ref (xTt κ) :: rest))) : W p l e R s m args below meth c H locs cells slots Q (F0 m pc ls rest) :=
  va_gets hc.1.1 hc.1.2.1 hc.2.2.2.2.2.2.2.2.2.1 hw.2.2 hc.1.2.2.2.1 (hc.1.2.2.2.2 _ hlink) (fun _ h => h) hdg kk
def iCln (own : String) (index : Nat) : Prop := Cond.methodLink own index ⟨"[I", "clone", "()Ljava/lang/Object;"⟩ ∈ gW ∧ Cond.sameMethod "[I" "java/lang/Object" "clone" "()Ljava/lang/Object;" ∈ gW ∧ Cond.native ⟨"java/lang/Object", "clone", "()Ljava/lang/Object;"⟩ ∈ gW ∧ Cond.instanceMethod ⟨"java/lang/Object", "clone", "()Ljava/lang/Object;"⟩ ∈ gW ∧ Cond.selects "[I" ⟨"[I", "clone", "()Ljava/lang/Object;"⟩ ⟨"java/lang/Object", "clone", "()Ljava/lang/Object;"⟩ ∈ gW
/-- the clone of a static row of four -/
theorem i_clone (hc : iC κ A p s m args meth c cc own nL) (hw : iW κ A s ws H locs) (hsz : ls.size = nL) {index : Nat} (hl : iCln own index) {t : Nat} {f : Nat → Int32} (h0 : xTT (xcI κ) t f A s.heap) (hR : 1 ≤ R.frames ∧ (rest.map fun v => v.category).sum + 14 ≤ R.locals) (hz : cells + 1 ≤ R.cells ∧ slots + 4 ≤ R.slots) (hdg : decode cc pc = .ok (.invokevirtual index, 3))
    (kk : ∀ (q : Nat) (H : Heap), iW κ A s (ws ++ [(q, .inl (xcI κ, 4, .inl f))]) H locs → W p l e R s m args below meth c H locs (cells + 1) (slots + 4) Q (F0 m (pc + 3) ls (.ref q :: rest))) : W p l e R s m args below meth c H locs cells slots Q (F0 m pc ls (.ref t :: rest)) := by
  obtain ⟨⟨hx, hb, hml, hown, hts⟩, -, -, -, hK, hA, hEn⟩ := hc
  obtain ⟨cell, c1, c2, c3, c4, c5, c6⟩ := h0
  obtain ⟨hP, hD, hS⟩ := hw
  obtain ⟨k1, k2, k3, k4, k5⟩ := hl
  have hnm : s.vm.findClass "[I" = some (xcI κ) := va_nm_int (hK.2 0 (xcI κ, .int) rfl).2
  obtain ⟨c0, t0', f1, f2, f3⟩ := Cond.castable_spec (va_Nw.use (A := args) rfl hEn.1.2.2)
  obtain rfl : xcI κ = c0 := Option.some.inj (hnm.symm.trans f1)
  have hsz4 : cell.slots.size = 4 := by rw [c5, arrV_size]
  have hcE : ({ cls := cell.cls, slots := cell.slots } : Cell) = vp_cell (xcI κ) (4, .inl f) := by
    rw [c4, c5, vp_cell_i]
    rfl
  have hcH : H[t]? = some cell := by rw [hS.2.1 t (Array.getElem?_eq_some_iff.mp c1).1 c6]; exact c1
  intro T hT X
  have hcT : T.heap[t]? = some cell := by rw [hT]; exact hcH
  obtain ⟨-, kA, hkA, comp, hkind⟩ := State.isArrayOf_alike X.warmed.alike ((hK.2 0 (xcI κ, .int) rfl).1 0 (fun _ => .null))
  obtain ⟨-, kS, hkS, compS, hkindS⟩ := (hK.2 0 (xcI κ, .int) rfl).1 0 (fun _ => .null)
  obtain ⟨vm', X', st⟩ := X.cloneArray hx hown (hts _ k1) (hts _ k2) (hts _ k3) (hts _ k4) (hts _ k5) (a := t) (cell := cell) hcT c2 c3 (by rw [c4]; exact hnm) f2 (by rw [c4]; exact f3)
    (fun i v hv => by
      rw [c4]
      have hk' : T.vm.classes[xcI κ]? = some kA := hkA
      have hfv : fits .int v = true := va_fit (cA := xcI κ) (n := 4) (F := fun j => .int (f j)) (fun i _ => rfl) i v (by rw [← c5]; exact hv)
      simpa [State.fitsSlot, State.slotType?, hk', hkind] using hfv)
    (g := F0 m pc ls (.ref t :: rest)) rfl (by rw [hml]; exact hsz) rfl (by rw [hb]; exact hdg) hR.1 (by show 2 * 0 + _ + 14 ≤ _; have := hR.2; omega) hz.1 (by rw [hsz4]; exact hz.2) (hloader := by rw [c4]; exact Vm.clonesLoader_of_array hkS hkindS)
  rw [hcE, hsz4] at X'
  generalize hH1 : H.push (vp_cell (xcI κ) (4, .inl f)) = H1
  have z1 : H1.size = H.size + 1 := by rw [← hH1, Array.size_push]
  have e1 : H1[H.size]? = some (vp_cell (xcI κ) (4, .inl f)) := by rw [← hH1, Array.getElem?_push_size]
  have o1 : ∀ q : Nat, q < H.size → H1[q]? = H[q]? := fun q hq => by rw [← hH1, Array.getElem?_push, if_neg (Nat.ne_of_lt hq)]
  have hk : ∀ (k : Nat) (y : Nat × va_E), ws[k]? = some y → H1[y.1]? = H[y.1]? := fun k y hy => o1 y.1 ((hP k y hy).lt)
  obtain ⟨t2, b1, b2⟩ := kk H.size H1 ⟨(hP.kept hk).app (fun k y hy => by
      have hz : k < 1 := (List.getElem?_eq_some_iff.mp hy).1
      rw [show k = 0 by omega] at hy
      cases hy
      exact e1), hD.push hP rfl (hA _ hS.1), ⟨Nat.le_trans hS.1 (by omega), fun y h1 h2 => (o1 y (Nat.lt_of_lt_of_le h1 hS.1)).trans (hS.2.1 y h1 h2), hS.2.2⟩⟩
    ((T.setVm vm').pushCell (vp_cell (xcI κ) (4, .inl f))) (by rw [← hH1, ← hT]; rfl) X'
  refine ⟨t2, st t2 ?_, b2⟩
  rw [hcE, hT]
  exact b1
/-- the cast of an array of ints to its own class -/
theorem i_castA (hc : iC κ A p s m args meth c cc own nL) {L : va_W} {a n : Nat} {f : Nat → Int32} (hw : iW κ A s (L ++ [(a, .inl (xcI κ, n, .inl f))]) H locs) {k : Nat} (hL : L.length = k) {index : Nat} (hl : Cond.classLink own index "[I" ∈ gW) (hdg : decode cc pc = .ok (.checkcast index, 3))
    (kk : W p l e R s m args below meth c H locs cells slots Q (F0 m (pc + 3) ls (.ref a :: rest))) : W p l e R s m args below meth c H locs cells slots Q (F0 m pc ls (.ref a :: rest)) := by
  obtain ⟨⟨hx, hb, hml, hown, hts⟩, -, -, -, hK, hA, -⟩ := hc
  subst hL
  exact va_castA hx hb hown (hts _ hl) hw.1 L.length (cA := xcI κ) (x := (n, .inl f)) (by simp) (va_nm_int (hK.2 0 (xcI κ, .int) rfl).2) hdg kk
theorem i_newI (hc : iC κ A p s m args meth c cc own nL) (hw : iW κ A s ws H locs) (harr : Cond.arrayClass .int ∈ gW) {n : Int32} {N : Nat} (hn : ¬ n < 0) (hN : n.toNatClampNeg = N) (hby : N * 4 ≤ 536870912) (hz : cells + 1 ≤ R.cells ∧ slots + N ≤ R.slots) (hdg : decode cc pc = .ok (.newarray .int, 2))
    (kk : ∀ (q : Nat) (H : Heap), iW κ A s (ws ++ [(q, .inl (xcI κ, N, .inl (fun _ => 0)))]) H locs → W p l e R s m args below meth c H locs (cells + 1) (slots + N) Q (F0 m (pc + 2) ls (.ref q :: rest))) : W p l e R s m args below meth c H locs cells slots Q (F0 m pc ls (.int n :: rest)) := by
  obtain ⟨⟨hx, hb, hml, hown, hts⟩, -, -, -, hK, hA, -⟩ := hc
  refine va_newa (atype := .int) hx hb (hts _ harr) (ty := .int) rfl hK hw.1 hw.2.1 hw.2.2 hA (N' := N) (a0 := (N, .inl (fun _ => 0))) (fun _ => rfl) hn hN hby hz.1 hz.2 hdg (fun q cA H1 k1 k2 k3 k4 => ?_)
  have e1 : s.vm.findClass ("[" ++ FieldType.int.toString) = some cA := (k1.2 5 (cA, .int) rfl).2
  have e2 : s.vm.findClass ("[" ++ FieldType.int.toString) = some (xcI κ) := (hK.2 0 (xcI κ, .int) rfl).2
  obtain rfl : cA = xcI κ := Option.some.inj (e1.symm.trans e2)
  exact kk q H1 ⟨k2, k3, k4⟩
theorem i_newJ (hc : iC κ A p s m args meth c cc own nL) (hw : iW κ A s ws H locs) (harr : Cond.arrayClass .long ∈ gW) {n : Int32} {N : Nat} (hn : ¬ n < 0) (hN : n.toNatClampNeg = N) (hby : N * 8 ≤ 536870912) (hz : cells + 1 ≤ R.cells ∧ slots + N ≤ R.slots) (hdg : decode cc pc = .ok (.newarray .long, 2))
    (kk : ∀ (q : Nat) (H : Heap), iW κ A s (ws ++ [(q, .inl (xcJ κ, N, .inr (.inl (fun _ => 0))))]) H locs → W p l e R s m args below meth c H locs (cells + 1) (slots + N) Q (F0 m (pc + 2) ls (.ref q :: rest))) : W p l e R s m args below meth c H locs cells slots Q (F0 m pc ls (.int n :: rest)) := by
  obtain ⟨⟨hx, hb, hml, hown, hts⟩, -, -, -, hK, hA, -⟩ := hc
  refine va_newa (atype := .long) hx hb (hts _ harr) (ty := .long) rfl hK hw.1 hw.2.1 hw.2.2 hA (N' := N) (a0 := (N, .inr (.inl (fun _ => 0)))) (fun _ => rfl) hn hN hby hz.1 hz.2 hdg (fun q cA H1 k1 k2 k3 k4 => ?_)
  have e1 : s.vm.findClass ("[" ++ FieldType.long.toString) = some cA := (k1.2 5 (cA, .long) rfl).2
  have e2 : s.vm.findClass ("[" ++ FieldType.long.toString) = some (xcJ κ) := (hK.2 1 (xcJ κ, .long) rfl).2
  obtain rfl : cA = xcJ κ := Option.some.inj (e1.symm.trans e2)
  exact kk q H1 ⟨k2, k3, k4⟩
theorem i_newC (hc : iC κ A p s m args meth c cc own nL) (hw : iW κ A s ws H locs) (harr : Cond.arrayClass .char ∈ gW) {n : Int32} {N : Nat} (hn : ¬ n < 0) (hN : n.toNatClampNeg = N) (hby : N * 2 ≤ 536870912) (hz : cells + 1 ≤ R.cells ∧ slots + N ≤ R.slots) (hdg : decode cc pc = .ok (.newarray .char, 2))
    (kk : ∀ (q : Nat) (H : Heap), iW κ A s (ws ++ [(q, .inl (xcC κ, N, .inl (fun _ => 0)))]) H locs → W p l e R s m args below meth c H locs (cells + 1) (slots + N) Q (F0 m (pc + 2) ls (.ref q :: rest))) : W p l e R s m args below meth c H locs cells slots Q (F0 m pc ls (.int n :: rest)) := by
  obtain ⟨⟨hx, hb, hml, hown, hts⟩, -, -, -, hK, hA, -⟩ := hc
  refine va_newa (atype := .char) hx hb (hts _ harr) (ty := .char) rfl hK hw.1 hw.2.1 hw.2.2 hA (N' := N) (a0 := (N, .inl (fun _ => 0))) (fun _ => rfl) hn hN hby hz.1 hz.2 hdg (fun q cA H1 k1 k2 k3 k4 => ?_)
  have e1 : s.vm.findClass ("[" ++ FieldType.char.toString) = some cA := (k1.2 5 (cA, .char) rfl).2
  have e2 : s.vm.findClass ("[" ++ FieldType.char.toString) = some (xcC κ) := (hK.2 2 (xcC κ, .char) rfl).2
  obtain rfl : cA = xcC κ := Option.some.inj (e1.symm.trans e2)
  exact kk q H1 ⟨k2, k3, k4⟩
end IRW
