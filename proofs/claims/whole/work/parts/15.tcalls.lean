section XTC
variable {κ : xKt} {A : Nat → Prop} {p : Program} {l : Launch} {e : Env} {R : Room} {s : State} {m : MethodId} {args : Array Value} {below : List Frame} {meth : Method} {c : Code} {H : Heap} {locs : List Loc} {cells slots : Nat} {Q : State → Prop}
variable {cc : ByteArray} {own : String} {nL : Nat} {ret : Option FieldType} {pc : Nat} {ls : Array Slot} {rest : List Value} {σ σ' : sW}
variable {y : MethodName} {bytes : ByteArray} {maxL idx n ci q0 : Nat} {rt : Option FieldType} {rm : Room} {As : List Value} {fs : List Value}
def xBoth (κ : xKt) (A : Nat → Prop) (p : Program) (l : Launch) (e : Env) (R : Room) (s : State) (m : MethodId) (args : Array Value) (below : List Frame) (meth : Method) (c : Code) (cells slots : Nat) (Q : State → Prop) (pc : Nat) (ls : Array Slot) (rest : List Value) (σ' : sW) (ec : Nat) : Prop :=
  ¬ ec = 0 → ∀ (H : Heap) (locs : List Loc) (q : Addr) (ce : Cell), xW κ A s σ' H locs → H[q]? = some ce → ce.vm = .none → s.vm.findClass (xEx ec) = some ce.cls → vx_W p l e R s m args below meth c H locs (cells + 1) (slots + 6) Q (F0 m pc ls rest) q
theorem x_tcalliV {st : List Value} {ec : Nat} {r : Int32} (hc : xC κ A p s m args meth c cc own nL ret) (hw : xW κ A s σ H locs) (hsz : ls.size = nL) (hlt : l.stackTraces = false) (hM : xTi l κ y bytes maxL rt rm (.ref (xAd κ q0) :: As) σ σ' ec r) (hk : xVk own idx y bytes maxL rt n ci) (he : xCl κ σ q0 (.inr (ci, fs))) (hst : st = As.reverse ++ .ref (xAd κ q0) :: rest) (hn : As.length = n) (hm : rm.cells = 1 ∧ rm.slots = 6) (hR : rm.frames + 1 ≤ R.frames ∧ 8 + (maxL + 11) + rm.locals ≤ R.locals) (hcs : cells + 1 ≤ R.cells ∧ slots + 6 ≤ R.slots) (hrs : (rest.map fun v => v.category).sum ≤ 8) (hdg : decode cc pc = .ok (.invokevirtual idx, 3))
    (kx : xBoth κ A p l e R s m args below meth c cells slots Q pc ls rest σ' ec)
    (kk : ec = 0 → ∀ (H : Heap) (locs : List Loc), xW κ A s σ' H locs → W p l e R s m args below meth c H locs (cells + 1) (slots + 6) Q (F0 m (pc + 3) ls (.int r :: rest))) : W p l e R s m args below meth c H locs cells slots Q (F0 m pc ls st) := by
  obtain ⟨h1, h2⟩ := x_pre hc hw
  obtain ⟨T, N, hcl⟩ := hk.2.2.2.2.2.2
  refine vx_calli (vx_runV (As := As) (rest := rest) (b := xAd κ q0) hc.1 (hM hlt H.size) (cwV n hc.1.2.2.2.2 (x_goodV hk) rfl hm.1 hm.2 ⟨rfl, hk.2.2.2.2.2.1⟩ hR) ⟨x_blind _ _ _ _, va_recv hc.2.2.2.1 hw.1 hcl (x_at he), fun U hU hW => ⟨rfl, h2 U hU hW⟩⟩ rfl hn hsz hst (lv_room hrs) hdg ⟨hcs.1, hcs.2⟩) hw.2 (fun q _ h => h1 q h) h1 (fun q _ h => h1 q h) ?_ ?_
  · intro E ce q9 u t H1 locs1 ht hvm hp hB hz1 hk1 hS e1 e2 e3
    obtain ⟨rfl, hB⟩ := hB
    rw [ht] at hB
    exact kx hp H1 locs1 q9 ce ⟨hB, hS⟩ e1 e2 e3
  · intro r2 u t H1 locs1 ht hvm hw1 hB hz1 hk1 hS
    obtain ⟨h0, rfl⟩ := hw1
    rw [ht] at hB
    exact kk h0 H1 locs1 ⟨hB, hS⟩
theorem x_tcalllV {st : List Value} {ec : Nat} {r : Int64} (hc : xC κ A p s m args meth c cc own nL ret) (hw : xW κ A s σ H locs) (hsz : ls.size = nL) (hlt : l.stackTraces = false) (hM : xTl l κ y bytes maxL rt rm (.ref (xAd κ q0) :: As) σ σ' ec r) (hk : xVk own idx y bytes maxL rt n ci) (he : xCl κ σ q0 (.inr (ci, fs))) (hst : st = As.reverse ++ .ref (xAd κ q0) :: rest) (hn : As.length = n) (hm : rm.cells = 1 ∧ rm.slots = 6) (hR : rm.frames + 1 ≤ R.frames ∧ 8 + (maxL + 11) + rm.locals ≤ R.locals) (hcs : cells + 1 ≤ R.cells ∧ slots + 6 ≤ R.slots) (hrs : (rest.map fun v => v.category).sum ≤ 8) (hdg : decode cc pc = .ok (.invokevirtual idx, 3))
    (kx : xBoth κ A p l e R s m args below meth c cells slots Q pc ls rest σ' ec)
    (kk : ec = 0 → ∀ (H : Heap) (locs : List Loc), xW κ A s σ' H locs → W p l e R s m args below meth c H locs (cells + 1) (slots + 6) Q (F0 m (pc + 3) ls (.long r :: rest))) : W p l e R s m args below meth c H locs cells slots Q (F0 m pc ls st) := by
  obtain ⟨h1, h2⟩ := x_pre hc hw
  obtain ⟨T, N, hcl⟩ := hk.2.2.2.2.2.2
  refine vx_calll (vx_runV (As := As) (rest := rest) (b := xAd κ q0) hc.1 (hM hlt H.size) (cwV n hc.1.2.2.2.2 (x_goodV hk) rfl hm.1 hm.2 ⟨rfl, hk.2.2.2.2.2.1⟩ hR) ⟨x_blind _ _ _ _, va_recv hc.2.2.2.1 hw.1 hcl (x_at he), fun U hU hW => ⟨rfl, h2 U hU hW⟩⟩ rfl hn hsz hst (lv_room hrs) hdg ⟨hcs.1, hcs.2⟩) hw.2 (fun q _ h => h1 q h) h1 (fun q _ h => h1 q h) ?_ ?_
  · intro E ce q9 u t H1 locs1 ht hvm hp hB hz1 hk1 hS e1 e2 e3
    obtain ⟨rfl, hB⟩ := hB
    rw [ht] at hB
    exact kx hp H1 locs1 q9 ce ⟨hB, hS⟩ e1 e2 e3
  · intro r2 u t H1 locs1 ht hvm hw1 hB hz1 hk1 hS
    obtain ⟨h0, rfl⟩ := hw1
    rw [ht] at hB
    exact kk h0 H1 locs1 ⟨hB, hS⟩
theorem x_tcalldV {st : List Value} {ec : Nat} {r : UInt64} (hc : xC κ A p s m args meth c cc own nL ret) (hw : xW κ A s σ H locs) (hsz : ls.size = nL) (hlt : l.stackTraces = false) (hM : xTd l κ y bytes maxL rt rm (.ref (xAd κ q0) :: As) σ σ' ec r) (hk : xVk own idx y bytes maxL rt n ci) (he : xCl κ σ q0 (.inr (ci, fs))) (hst : st = As.reverse ++ .ref (xAd κ q0) :: rest) (hn : As.length = n) (hm : rm.cells = 1 ∧ rm.slots = 6) (hR : rm.frames + 1 ≤ R.frames ∧ 8 + (maxL + 11) + rm.locals ≤ R.locals) (hcs : cells + 1 ≤ R.cells ∧ slots + 6 ≤ R.slots) (hrs : (rest.map fun v => v.category).sum ≤ 8) (hdg : decode cc pc = .ok (.invokevirtual idx, 3))
    (kx : xBoth κ A p l e R s m args below meth c cells slots Q pc ls rest σ' ec)
    (kk : ec = 0 → ∀ (H : Heap) (locs : List Loc), xW κ A s σ' H locs → W p l e R s m args below meth c H locs (cells + 1) (slots + 6) Q (F0 m (pc + 3) ls (.double r :: rest))) : W p l e R s m args below meth c H locs cells slots Q (F0 m pc ls st) := by
  obtain ⟨h1, h2⟩ := x_pre hc hw
  obtain ⟨T, N, hcl⟩ := hk.2.2.2.2.2.2
  refine vx_calld (vx_runV (As := As) (rest := rest) (b := xAd κ q0) hc.1 (hM hlt H.size) (cwV n hc.1.2.2.2.2 (x_goodV hk) rfl hm.1 hm.2 ⟨rfl, hk.2.2.2.2.2.1⟩ hR) ⟨x_blind _ _ _ _, va_recv hc.2.2.2.1 hw.1 hcl (x_at he), fun U hU hW => ⟨rfl, h2 U hU hW⟩⟩ rfl hn hsz hst (lv_room hrs) hdg ⟨hcs.1, hcs.2⟩) hw.2 (fun q _ h => h1 q h) h1 (fun q _ h => h1 q h) ?_ ?_
  · intro E ce q9 u t H1 locs1 ht hvm hp hB hz1 hk1 hS e1 e2 e3
    obtain ⟨rfl, hB⟩ := hB
    rw [ht] at hB
    exact kx hp H1 locs1 q9 ce ⟨hB, hS⟩ e1 e2 e3
  · intro r2 u t H1 locs1 ht hvm hw1 hB hz1 hk1 hS
    obtain ⟨h0, rfl⟩ := hw1
    rw [ht] at hB
    exact kk h0 H1 locs1 ⟨hB, hS⟩
theorem x_tcallvV {st : List Value} {ec : Nat} (hc : xC κ A p s m args meth c cc own nL ret) (hw : xW κ A s σ H locs) (hsz : ls.size = nL) (hlt : l.stackTraces = false) (hM : xTv l κ y bytes maxL rt rm (.ref (xAd κ q0) :: As) σ σ' ec) (hk : xVk own idx y bytes maxL rt n ci) (he : xCl κ σ q0 (.inr (ci, fs))) (hst : st = As.reverse ++ .ref (xAd κ q0) :: rest) (hn : As.length = n) (hm : rm.cells = 1 ∧ rm.slots = 6) (hR : rm.frames + 1 ≤ R.frames ∧ 8 + (maxL + 11) + rm.locals ≤ R.locals) (hcs : cells + 1 ≤ R.cells ∧ slots + 6 ≤ R.slots) (hrs : (rest.map fun v => v.category).sum ≤ 8) (hdg : decode cc pc = .ok (.invokevirtual idx, 3))
    (kx : xBoth κ A p l e R s m args below meth c cells slots Q pc ls rest σ' ec)
    (kk : ec = 0 → ∀ (H : Heap) (locs : List Loc), xW κ A s σ' H locs → W p l e R s m args below meth c H locs (cells + 1) (slots + 6) Q (F0 m (pc + 3) ls rest)) : W p l e R s m args below meth c H locs cells slots Q (F0 m pc ls st) := by
  obtain ⟨h1, h2⟩ := x_pre hc hw
  obtain ⟨T, N, hcl⟩ := hk.2.2.2.2.2.2
  refine vx_callv (vx_runV (As := As) (rest := rest) (b := xAd κ q0) hc.1 (hM hlt H.size) (cwV n hc.1.2.2.2.2 (x_goodV hk) rfl hm.1 hm.2 ⟨rfl, hk.2.2.2.2.2.1⟩ hR) ⟨x_blind _ _ _ _, va_recv hc.2.2.2.1 hw.1 hcl (x_at he), fun U hU hW => ⟨rfl, h2 U hU hW⟩⟩ rfl hn hsz hst (lv_room hrs) hdg ⟨hcs.1, hcs.2⟩) hw.2 (fun q _ h => h1 q h) h1 (fun q _ h => h1 q h) ?_ ?_
  · intro E ce q9 u t H1 locs1 ht hvm hp hB hz1 hk1 hS e1 e2 e3
    obtain ⟨rfl, hB⟩ := hB
    rw [ht] at hB
    exact kx hp H1 locs1 q9 ce ⟨hB, hS⟩ e1 e2 e3
  · intro u t H1 locs1 ht hvm hw1 hB hz1 hk1 hS
    rw [ht] at hB
    exact kk hw1 H1 locs1 ⟨hB, hS⟩
theorem x_calldV {st : List Value} (hc : xC κ A p s m args meth c cc own nL ret) (hw : xW κ A s σ H locs) (hsz : ls.size = nL) {r : UInt64} (hM : xMd l κ y bytes maxL rt rm (.ref (xAd κ q0) :: As) σ σ' r) (hk : xVk own idx y bytes maxL rt n ci) (he : xCl κ σ q0 (.inr (ci, fs))) (hst : st = As.reverse ++ .ref (xAd κ q0) :: rest) (hn : As.length = n) (hm : rm.cells = 0 ∧ rm.slots = 0) (hR : rm.frames + 1 ≤ R.frames ∧ 8 + (maxL + 11) + rm.locals ≤ R.locals) (hcs : cells ≤ R.cells ∧ slots ≤ R.slots) (hrs : (rest.map fun v => v.category).sum ≤ 8) (hdg : decode cc pc = .ok (.invokevirtual idx, 3))
    (kk : ∀ (H : Heap) (locs : List Loc), xW κ A s σ' H locs → W p l e R s m args below meth c H locs cells slots Q (F0 m (pc + 3) ls (.double r :: rest))) : W p l e R s m args below meth c H locs cells slots Q (F0 m pc ls st) := by
  obtain ⟨h1, h2⟩ := x_pre hc hw
  obtain ⟨T, N, hcl⟩ := hk.2.2.2.2.2.2
  refine va_calld (va_runV (As := As) (rest := rest) (b := xAd κ q0) hc.1 (hM H.size) (cwV n hc.1.2.2.2.2 (x_goodV hk) rfl hm.1 hm.2 ⟨rfl, hk.2.2.2.2.2.1⟩ hR) ⟨x_blind _ _ _ _, va_recv hc.2.2.2.1 hw.1 hcl (x_at he), fun U hU hW => ⟨rfl, h2 U hU hW⟩⟩ rfl hn hsz hst (lv_room hrs) hdg ⟨hcs.1, hcs.2⟩) hw.2 (fun q _ h => h1 q h) h1 (fun r2 u t H1 locs1 ht hvm hw1 hB hz1 hk1 hS => ?_)
  subst hw1
  rw [ht] at hB
  exact kk H1 locs1 ⟨hB, hS⟩
/-- a static method of a nest mate -/
def xNk (own : String) (idx : Nat) (y : MethodName) (bytes : ByteArray) (maxL : Nat) (ret : Option FieldType) (n : Nat) : Prop := (own, idx, y) ∈ xNest ∧ Cond.static y ∈ gW ∧ Cond.initialized y.cls ∈ gW ∧ Cond.code y bytes maxL ret ∈ gW ∧ (y.cls ≠ "java/lang/invoke/MethodHandle" ∧ y.cls ≠ "java/lang/invoke/VarHandle" ∧ (parseMethodDescriptor y.desc).map (fun d => d.parameters.length) = some n)
theorem x_calliN {st : List Value} (hc : xC κ A p s m args meth c cc own nL ret) (hw : xW κ A s σ H locs) (hsz : ls.size = nL) {r : Int32} (hM : xMi l κ y bytes maxL rt rm As σ σ' r) (hk : xNk own idx y bytes maxL rt n) (hst : st = As.reverse ++ rest) (hn : As.length = n) (hm : rm.cells = 0 ∧ rm.slots = 0) (hR : rm.frames + 1 ≤ R.frames ∧ 8 + (maxL + 11) + rm.locals ≤ R.locals) (hcs : cells ≤ R.cells ∧ slots ≤ R.slots) (hrs : (rest.map fun v => v.category).sum ≤ 8) (hdg : decode cc pc = .ok (.invokestatic idx, 3))
    (kk : ∀ (H : Heap) (locs : List Loc), xW κ A s σ' H locs → W p l e R s m args below meth c H locs cells slots Q (F0 m (pc + 3) ls (.int r :: rest))) : W p l e R s m args below meth c H locs cells slots Q (F0 m pc ls st) := by
  obtain ⟨h1, h2⟩ := x_pre hc hw
  have hts := hc.1.2.2.2.2
  have hnl := hc.2.2.2.2.2.2.2.2.2.2.2 _ hk.1
  refine va_calli (va_runSN (As := As) (rest := rest) hc.1 (hM H.size) ⟨va_cnB n hts (x_goodL hk.2.2.2.1) rfl hm.1 hm.2 hnl (hts _ hk.2.2.1) hk.2.2.2.2 hR, hts _ hk.2.1, trivial⟩ ⟨x_blind _ _ _ _, fun U hU hW => ⟨rfl, h2 U hU hW⟩⟩ rfl hn hsz hst (lv_room hrs) hdg ⟨hcs.1, hcs.2⟩) hw.2 (fun q _ h => h1 q h) h1 (fun r2 u t H1 locs1 ht hvm hw1 hB hz1 hk1 hS => ?_)
  subst hw1
  rw [ht] at hB
  exact kk H1 locs1 ⟨hB, hS⟩
end XTC
/-- a method that catches -/
abbrev xWlH (y : MethodName) (bytes : ByteArray) (maxL : Nat) (ret : Option FieldType) (hh : List (Nat × Nat × Nat × Nat)) : List Cond := Cond.codeWith y bytes maxL ret hh :: gW
def xHi (l : Launch) (κ : xKt) (y : MethodName) (bytes : ByteArray) (maxL : Nat) (ret : Option FieldType) (hh : List (Nat × Nat × Nat × Nat)) (rm : Room) (av : List Value) (σ σ' : sW) (r : Int32) : Prop := l.stackTraces = false → ∀ sz, Met l y (xWlH y bytes maxL ret hh) rm (va_Pc av (xPre κ σ sz)) (va_Qi (fun r2 (_ : Unit) => r2 = r) (fun _ t => va_P κ.1 xCls (xWs κ σ') t.heap) (xA κ sz)) 1 6 (xA κ sz)
theorem xHi_of {l : Launch} {κ : xKt} {y : MethodName} {bytes : ByteArray} {maxL : Nat} {hh : List (Nat × Nat × Nat × Nat)} {lv : Nat} {av : List Value} {σ σ' : sW} {r : Int32} (hy : plainName y.cls = true) (hn : (lg_sl av).length ≤ maxL)
    (body : ∀ (A : Nat → Prop) (p : Program) (e : Env) (s : State) (m : MethodId) (args : Array Value) (below : List Frame) (meth : Method) (c : Code) (ls : Array Slot) (Q : State → Prop), l.stackTraces = false → xC κ A p s m args meth c bytes y.cls maxL (some .int) → c.exceptionTable.toList = tableOf hh → xW κ A s σ s.heap [] → lv_has ls maxL (lv_args 0 av) →
      (∀ (pc : Nat) (ls : Array Slot) (H : Heap) (locs : List Loc) (k n : Nat), k ≤ 1 → n ≤ 6 → decode bytes pc = .ok (.ireturn, 1) → xW κ A s σ' H locs → W p l e (xR lv 1 6) s m args below meth c H locs k n Q (F0 m pc ls [.int r])) →
      W p l e (xR lv 1 6) s m args below meth c s.heap [] 0 0 Q (F0 m 0 ls [])) : xHi l κ y bytes maxL (some .int) hh (xR lv 1 6) av σ σ' r := by
  intro hlt sz
  refine va_MetW (cc := bytes) (maxL := maxL) (ret := some .int) (hh := hh) hy rfl ?_
  intro p e s m args below meth c s₁ B hml hv
  obtain ⟨h0, rfl, hP, hK, hi, hst, hen⟩ := hv
  subst h0
  have hts := atoms_spec (ws := xWlH y bytes maxL (some .int) hh) B.pre
  have hT := vx_table (x := y) B (hts _ List.mem_cons_self)
  have hc : xC κ (xA κ s.heap.size) p s m av.toArray meth c bytes y.cls maxL (some .int) := ⟨⟨B.exec, B.bytes, hml, findClass_of_methodNamed B.named, fun w hw => hts w (List.mem_cons_of_mem _ hw)⟩, B.returns, B.notSynchronized, hK, hst, fun q h => Or.inr h, hi, fun k hk => Or.inl ⟨k, hk, rfl⟩, hen⟩
  have hl := lv_entry av (n := maxL) hn
  rw [lg_entry_eq]
  generalize (lg_sl av ++ List.replicate (maxL - (lg_sl av).length) Slot.unset).toArray = ls at hl ⊢
  refine body (xA κ s.heap.size) p e s m _ below meth c ls _ hlt hc hT ⟨hP, va_S.rf⟩ hl ?_
  intro pc ls H locs k n hk1 hn1 hd hw1
  exact W.widen hk1 hn1 (W.iret hc.1.1 hc.1.2.1 hc.2.1 (fun t ht _ => ⟨⟨r, (), rfl, rfl, by show va_P _ _ _ t.heap; rw [ht]; exact hw1.1⟩, hw1.2.F ht⟩) hw1.2.2.2 hd hc.2.2.1)
def xHk (own : String) (idx : Nat) (y : MethodName) (bytes : ByteArray) (maxL : Nat) (ret : Option FieldType) (hh : List (Nat × Nat × Nat × Nat)) (n : Nat) : Prop := Cond.methodLink own idx y ∈ gW ∧ Cond.static y ∈ gW ∧ Cond.initialized y.cls ∈ gW ∧ Cond.codeWith y bytes maxL ret hh ∈ gW ∧ (y.cls ≠ "java/lang/invoke/MethodHandle" ∧ y.cls ≠ "java/lang/invoke/VarHandle" ∧ (parseMethodDescriptor y.desc).map (fun d => d.parameters.length) = some n)
theorem x_goodH {own : String} {idx n : Nat} {y : MethodName} {bytes : ByteArray} {maxL : Nat} {ret : Option FieldType} {hh : List (Nat × Nat × Nat × Nat)} (h : xHk own idx y bytes maxL ret hh n) : GoodIn gW (va_wsS own idx y (xWlH y bytes maxL ret hh)) := by
  obtain ⟨h1, h2, h3, h4, -⟩ := h
  intro w hw
  unfold va_wsS at hw
  have : w ∈ gW := by
    rcases List.mem_append.mp hw with hw | hw
    · simp only [List.mem_cons, List.not_mem_nil, or_false] at hw
      rcases hw with rfl | rfl | rfl
      · exact h1
      · exact h2
      · exact h3
    · rcases List.mem_cons.mp hw with rfl | hw
      · exact h4
      · exact hw
  exact ⟨this, good_of_word (gW_good this).2⟩
section XHC
variable {κ : xKt} {A : Nat → Prop} {p : Program} {l : Launch} {e : Env} {R : Room} {s : State} {m : MethodId} {args : Array Value} {below : List Frame} {meth : Method} {c : Code} {H : Heap} {locs : List Loc} {cells slots : Nat} {Q : State → Prop}
variable {cc : ByteArray} {own : String} {nL : Nat} {ret : Option FieldType} {pc : Nat} {ls : Array Slot} {rest : List Value} {σ σ' : sW}
theorem x_catch {hh pre suf : List (Nat × Nat × Nat × Nat)} {x : Nat × Nat × Nat × Nat} {ec : Nat} {q : Addr} {ce : Cell} (hc : xC κ A p s m args meth c cc own nL ret) (hT : c.exceptionTable.toList = tableOf hh) (hsplit : hh = pre ++ x :: suf) (hec : xE6 ec)
    (hpre : ∀ z ∈ pre, z.2.2.2 ≠ 0 ∧ ∃ nm ∈ xNames, Cond.classLink own z.2.2.2 nm ∈ gW ∧ xEx ec ≠ nm) (hcov : covers ⟨x.1, x.2.1, x.2.2.1, x.2.2.2⟩ pc = true) (h0 : x.2.2.2 ≠ 0) (hl : Cond.classLink own x.2.2.2 (xEx ec) ∈ gW) (h1 : H[q]? = some ce) (h2 : ce.vm = .none) (h3 : s.vm.findClass (xEx ec) = some ce.cls)
    (kk : W p l e R s m args below meth c H locs cells slots Q (F0 m x.2.2.1 ls [.ref q])) : vx_W p l e R s m args below meth c H locs cells slots Q (F0 m pc ls rest) q := by
  obtain ⟨⟨hx, hb, hml, hown, hts⟩, -, -, -, -, -, -, -, hen⟩ := hc
  refine vx_catch (name := xEx ec) hown (tableOf pre) ⟨x.1, x.2.1, x.2.2.1, x.2.2.2⟩ (tableOf suf) ?_ ?_ hcov h0 (hts _ hl) (va_Nw.use rfl (hen.2.1 _ (xEx_in hec).1)) h1 h2 h3 kk
  · rw [hT, hsplit]
    simp [tableOf]
  · intro z hz
    obtain ⟨w, hw, rfl⟩ := List.mem_map.mp hz
    obtain ⟨a, nm, b, d, f⟩ := hpre w hw
    exact Or.inr ⟨a, nm, hts _ d, hen.2.2.1 _ (xEx_in hec).1 _ b f⟩
end XHC
