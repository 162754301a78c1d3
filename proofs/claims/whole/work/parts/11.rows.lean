-- checks and binds of the pure programs
def xk {α : Type} (b : Bool) (x : Option α) : Option α := bif b then x else none
def xin (i : Int32) (n : Nat) : Bool := decide (0 ≤ i.toInt ∧ i.toInt < n)
def xnz (i : Int32) : Bool := decide (¬ i = 0)
def xnzl (i : Int64) : Bool := decide (¬ i = 0)
def xisb (i : Int32) : Bool := decide (i = 0 ∨ i = 1)
def xb1 {α ρ : Type} (o : Option α) (k : α → Option ρ) : Option ρ := match o with
  | some a => k a
  | none => none
theorem xk_of {α : Type} {b : Bool} {x : Option α} {R : α} (h : xk b x = some R) : b = true ∧ x = some R := by
  cases b with
  | false => cases h
  | true => exact ⟨rfl, h⟩
theorem xb1_of {α ρ : Type} {o : Option α} {k : α → Option ρ} {R : ρ} (h : xb1 o k = some R) : ∃ a, o = some a ∧ k a = some R := by
  cases o with
  | none => cases h
  | some a => exact ⟨a, rfl, h⟩
theorem xin_vp {i : Int32} {n : Nat} (h : xin i n = true) : vp_in i n := by
  rw [vp_in_iff]
  exact of_decide_eq_true h
theorem xif_t {α : Type} {c : Prop} [Decidable c] {a b : Option α} {R : α} (h : c) (hf : (if c then a else b) = some R) : a = some R := by rwa [if_pos h] at hf
theorem xif_f {α : Type} {c : Prop} [Decidable c] {a b : Option α} {R : α} (h : ¬ c) (hf : (if c then a else b) = some R) : b = some R := by rwa [if_neg h] at hf
theorem xisb_n {i : Int32} (h : xisb i = true) : narrow .boolean (.int i) = .int i ∧ fits .boolean (.int i) = true := by
  rcases of_decide_eq_true h with rfl | rfl
  · exact ⟨by decide, by decide⟩
  · exact ⟨by decide, by decide⟩
-- the names of what is thrown
def xEx (n : Nat) : String := match n with
  | 1 => "java/lang/IndexOutOfBoundsException"
  | 2 => "java/lang/IllegalArgumentException"
  | 3 => "java/lang/IllegalStateException"
  | 4 => "java/lang/UnsupportedOperationException"
  | 5 => "java/util/NoSuchElementException"
  | _ => "java/lang/ArithmeticException"
-- rooms
def xR (n mc ms : Nat) : Room := { frames := n + 8, cells := mc, slots := ms, locals := 150 + 40 * n }
-- what is known all along a method
def xA (κ : xKt) (sz : Nat) : Nat → Prop := fun q => (∃ k, k < 256 ∧ q = xAd κ k) ∨ sz ≤ q
def xInj (κ : xKt) : Prop := ∀ i j, i < 256 → j < 256 → xAd κ i = xAd κ j → i = j
/-- a static row of four ints that nobody writes, known exactly -/
def xTT (cI : ClassId) (t : Nat) (f : Nat → Int32) (A : Nat → Prop) (H : Heap) : Prop := ∃ cell : Cell, H[t]? = some cell ∧ (∀ k, cell.vm ≠ .statics k) ∧ cell.vm ≠ .unknown ∧ cell.cls = cI ∧ cell.slots = (arrV cI 4 (fun j => .int (f j))).slots ∧ ¬ A t
theorem xTT.kept {cI : ClassId} {t : Nat} {f : Nat → Int32} {A : Nat → Prop} {H H1 : Heap} (h : xTT cI t f A H) (hq : ∀ a : Nat, a < H.size → ¬ A a → H1[a]? = H[a]?) : xTT cI t f A H1 := by
  obtain ⟨cell, h1, h2, h3, h4, h5, h6⟩ := h
  exact ⟨cell, by rw [hq t (Array.getElem?_eq_some_iff.mp h1).1 h6]; exact h1, h2, h3, h4, h5, h6⟩
theorem xTT.narrow {cI : ClassId} {t : Nat} {f : Nat → Int32} {A B : Nat → Prop} {H : Heap} (h : xTT cI t f A H) (hAB : ∀ q, B q → A q) : xTT cI t f B H := by
  obtain ⟨cell, h1, h2, h3, h4, h5, h6⟩ := h
  exact ⟨cell, h1, h2, h3, h4, h5, fun z => h6 (hAB t z)⟩
theorem xTT.row {cI : ClassId} {t : Nat} {f : Nat → Int32} {A : Nat → Prop} {s : State} (h : xTT cI t f A s.heap) (hK : ArrOfT s cI .int) : va_X t 4 f s s.heap ∧ t < s.heap.size ∧ ¬ A t := by
  obtain ⟨cell, h1, h2, h3, h4, h5, h6⟩ := h
  obtain ⟨-, k, hk, comp, hkind⟩ := hK 0 (fun _ => .null)
  refine ⟨⟨cell, h1, ⟨h2, k, by rw [h4]; exact hk, comp, hkind⟩, h3, by rw [h5, arrV_size], fun j hj => ?_⟩, (Array.getElem?_eq_some_iff.mp h1).1, h6⟩
  rw [h5]
  exact arrV_read _ _ hj
def xS2 (κ : xKt) (A : Nat → Prop) (U : State) (H : Heap) : Prop := va_Z "ArbitrationFees$Accounts" "FIRST_RATES" "[I" (.ref (xTr κ)) A U H ∧ xTT (xcI κ) (xTr κ) xRate0 A H ∧ va_Z "ArbitrationFees$Accounts" "FIRST_TIERS" "[I" (.ref (xTt κ)) A U H ∧ xTT (xcI κ) (xTt κ) xTier0 A H
theorem xS2.moved {κ : xKt} {A : Nat → Prop} {u U : State} {H : Heap} (hvm : u.vm.Alike U.vm) (h : xS2 κ A u H) : xS2 κ A U H := by
  obtain ⟨h1, h2, h3, h4⟩ := h
  exact ⟨h1.moved hvm, h2, h3.moved hvm, h4⟩
theorem xS2.kept {κ : xKt} {A : Nat → Prop} {U : State} {H H1 : Heap} (h : xS2 κ A U H) (hq : ∀ a : Nat, a < H.size → ¬ A a → H1[a]? = H[a]?) : xS2 κ A U H1 := by
  obtain ⟨h1, h2, h3, h4⟩ := h
  exact ⟨h1.kept hq, h2.kept hq, h3.kept hq, h4.kept hq⟩
theorem xS2.narrow {κ : xKt} {A B : Nat → Prop} {U : State} {H : Heap} (h : xS2 κ A U H) (hAB : ∀ q, B q → A q) : xS2 κ B U H := by
  obtain ⟨h1, h2, h3, h4⟩ := h
  exact ⟨h1.narrow hAB, h2.narrow hAB, h3.narrow hAB, h4.narrow hAB⟩
def xSt (κ : xKt) (A : Nat → Prop) (U : State) (H : Heap) : Prop := vx_Zq Bundle.tN "UNASSIGNED_STACK" Bundle.steD A U H ∧ vx_Zq Bundle.tN "SUPPRESSED_SENTINEL" Bundle.listD A U H ∧ va_Z "ArbitrationFees$Accounts" "TIER_FLOORS" "[I" (.ref (xTf κ)) A U H ∧ va_T .int (xTf κ) 4 (fun j => .int (xTier j)) A U H ∧ xS2 κ A U H
theorem xSt.moved {κ : xKt} {A : Nat → Prop} {u U : State} {H : Heap} (hvm : u.vm.Alike U.vm) (h : xSt κ A u H) : xSt κ A U H := by
  obtain ⟨h1, h2, h3, h4, h5⟩ := h
  exact ⟨h1.moved hvm, h2.moved hvm, h3.moved hvm, h4.moved hvm, h5.moved hvm⟩
theorem xSt.kept {κ : xKt} {A : Nat → Prop} {U : State} {H H1 : Heap} (h : xSt κ A U H) (hz : H.size ≤ H1.size) (hq : ∀ a : Nat, a < H.size → ¬ A a → H1[a]? = H[a]?) : xSt κ A U H1 := by
  obtain ⟨h1, h2, h3, h4, h5⟩ := h
  exact ⟨h1.kept hq, h2.kept hq, h3.kept hq, h4.kept hq, h5.kept hq⟩
theorem xSt.narrow {κ : xKt} {A B : Nat → Prop} {U : State} {H : Heap} (h : xSt κ A U H) (hAB : ∀ q, B q → A q) : xSt κ B U H := by
  obtain ⟨h1, h2, h3, h4, h5⟩ := h
  exact ⟨h1.narrow hAB, h2.narrow hAB, h3.narrow hAB, h4.narrow hAB, h5.narrow hAB⟩
-- words that the tables alone decide, of exceptions and of nest mates
def xNames : List String := ["java/lang/IndexOutOfBoundsException", "java/lang/IllegalArgumentException", "java/lang/IllegalStateException", "java/lang/UnsupportedOperationException", "java/util/NoSuchElementException", "java/lang/ArithmeticException"]
def xEd : List MethodName := [⟨"java/lang/Throwable", "<init>", "()V"⟩, ⟨"java/lang/Exception", "<init>", "()V"⟩, ⟨"java/lang/RuntimeException", "<init>", "()V"⟩]
def xNest : List (String × Nat × MethodName) := [(RX7, 25, yX6_init), (RX7, 32, yX5_init), (RX7, 9, yX0_init), (RX0, 120, yX7_isWithin), (RX0, 11, yX4_init), (RX0, 20, yX1_init), (RX0, 27, yX2_init), (RX0, 34, yX3_init), (RX0, 96, yX7_isAmount), (RX6, 61, yX7_isWithin)]
def xEn (U : State) : Prop := (∀ x ∈ xEd, va_Nw (.declares x) U) ∧ (∀ n ∈ xNames, va_Nw (.castable n n) U) ∧ (∀ n ∈ xNames, ∀ k ∈ xNames, n ≠ k → va_Nc n k U) ∧ ∀ q ∈ xNest, va_Nw (.methodLinkNest q.1 q.2.1 q.2.2 RX7) U
theorem xEn.warm {s U : State} (hW : s.WarmedH U.vm) (h : xEn s) : xEn U := ⟨fun x hx => (h.1 x hx).warmD hW, fun n hn => (h.2.1 n hn).warmC hW, fun n hn k hk hnk => (h.2.2.1 n hn k hk hnk).moved hW.alike, fun q hq => (h.2.2.2 q hq).warmM hW⟩
theorem xEn.same {s U : State} (hW : s.vm = U.vm) (h : xEn s) : xEn U := ⟨fun x hx => (h.1 x hx).same rfl hW, fun n hn => (h.2.1 n hn).same rfl hW, fun n hn k hk hnk => (h.2.2.1 n hn k hk hnk).moved (by rw [hW]; exact Vm.Alike.refl U.vm), fun q hq => (h.2.2.2 q hq).same rfl hW⟩
def xC (κ : xKt) (A : Nat → Prop) (p : Program) (s : State) (m : MethodId) (args : Array Value) (meth : Method) (c : Code) (cc : ByteArray) (own : String) (nL : Nat) (ret : Option FieldType) : Prop :=
  CallFix p m c cc nL s args gW own ∧ meth.sig.returnType = ret ∧ meth.locks = false ∧ va_K κ.1 xCls (xTys κ) s ∧ xSt κ A s s.heap ∧ (∀ q, s.heap.size ≤ q → A q) ∧ xInj κ ∧ (∀ k, k < 256 → A (xAd κ k)) ∧ xEn s
def xW (κ : xKt) (A : Nat → Prop) (s : State) (σ : sW) (H : Heap) (locs : List Loc) : Prop := va_P κ.1 xCls (xWs κ σ) H ∧ va_S A s.heap H locs
theorem x_D {κ : xKt} {A : Nat → Prop} {σ : sW} (hi : xInj κ) (hA : ∀ k, k < 256 → A (xAd κ k)) : va_D A (xWs κ σ) := by
  refine ⟨fun i j p q hp hq h => ?_, fun k q hq => ?_⟩
  · obtain ⟨i1, rfl⟩ := x_at0 hp
    obtain ⟨j1, rfl⟩ := x_at0 hq
    exact hi i j i1 j1 h
  · obtain ⟨k1, rfl⟩ := x_at0 hq
    exact hA k k1
-- links: a field, a method, by class and number
def xFl (own : String) (index ci k : Nat) (ty : FieldType) (fin : Bool) : Prop := ∃ (C : String) (T : u_T) (N : Nat) (ty0 : Nat → FieldType), xCls[ci]? = some (C, T, N) ∧ (∀ w ∈ u_ws C T N, w ∈ gW) ∧ k < N ∧ Cond.fieldLink own index C (T k).2.1 (T k).2.2.1 ∈ gW ∧ (T k).1 = C ∧ (∀ k, k < N → parseFieldDescriptor (T k).2.2.1 = some (ty0 k)) ∧ (∀ a, a < N → ∀ b, b < N → a ≠ b → (T a).2.1 ≠ (T b).2.1) ∧ (T k).2.2.2 = fin ∧ parseFieldDescriptor (T k).2.2.1 = some ty
def xVk (own : String) (idx : Nat) (y : MethodName) (bytes : ByteArray) (maxL : Nat) (ret : Option FieldType) (n ci : Nat) : Prop := Cond.methodLink own idx y ∈ gW ∧ Cond.instanceMethod y ∈ gW ∧ Cond.selects y.cls y y ∈ gW ∧ Cond.initialized y.cls ∈ gW ∧ Cond.code y bytes maxL ret ∈ gW ∧ (y.cls ≠ "java/lang/invoke/MethodHandle" ∧ y.cls ≠ "java/lang/invoke/VarHandle" ∧ (parseMethodDescriptor y.desc).map (fun d => d.parameters.length) = some n) ∧ ∃ T N, xCls[ci]? = some (y.cls, T, N)
def xSk (own : String) (idx : Nat) (y : MethodName) (bytes : ByteArray) (maxL : Nat) (ret : Option FieldType) (n : Nat) : Prop := Cond.methodLink own idx y ∈ gW ∧ Cond.static y ∈ gW ∧ Cond.initialized y.cls ∈ gW ∧ Cond.code y bytes maxL ret ∈ gW ∧ (y.cls ≠ "java/lang/invoke/MethodHandle" ∧ y.cls ≠ "java/lang/invoke/VarHandle" ∧ (parseMethodDescriptor y.desc).map (fun d => d.parameters.length) = some n)
abbrev xWl (y : MethodName) (bytes : ByteArray) (maxL : Nat) (ret : Option FieldType) : List Cond := Cond.code y bytes maxL ret :: gW
theorem x_goodL {y : MethodName} {bytes : ByteArray} {maxL : Nat} {ret : Option FieldType} (h : Cond.code y bytes maxL ret ∈ gW) : GoodIn gW (xWl y bytes maxL ret) := by
  intro w hw
  rcases List.mem_cons.mp hw with rfl | hw
  · exact ⟨h, good_of_word (gW_good h).2⟩
  · exact ⟨hw, good_of_word (gW_good hw).2⟩
theorem x_goodV {own : String} {idx n ci : Nat} {y : MethodName} {bytes : ByteArray} {maxL : Nat} {ret : Option FieldType} (h : xVk own idx y bytes maxL ret n ci) : GoodIn gW (wsV own idx y.cls y (xWl y bytes maxL ret)) := by
  obtain ⟨h1, h2, h3, h4, h5, -⟩ := h
  intro w hw
  unfold wsV at hw
  rcases List.mem_append.mp hw with hw | hw
  · have : w ∈ gW := by
      simp only [List.mem_cons, List.not_mem_nil, or_false] at hw
      rcases hw with rfl | rfl | rfl | rfl
      · exact h1
      · exact h2
      · exact h3
      · exact h4
    exact ⟨this, good_of_word (gW_good this).2⟩
  · exact x_goodL h5 w hw
theorem x_goodS {own : String} {idx n : Nat} {y : MethodName} {bytes : ByteArray} {maxL : Nat} {ret : Option FieldType} (h : xSk own idx y bytes maxL ret n) : GoodIn gW (va_wsS own idx y (xWl y bytes maxL ret)) := by
  obtain ⟨h1, h2, h3, h4, -⟩ := h
  intro w hw
  unfold va_wsS at hw
  rcases List.mem_append.mp hw with hw | hw
  · have : w ∈ gW := by
      simp only [List.mem_cons, List.not_mem_nil, or_false] at hw
      rcases hw with rfl | rfl | rfl
      · exact h1
      · exact h2
      · exact h3
    exact ⟨this, good_of_word (gW_good this).2⟩
  · exact x_goodL h4 w hw
-- contracts
def xPre (κ : xKt) (σ : sW) (sz : Nat) (U : State) : Prop := U.heap.size = sz ∧ va_P κ.1 xCls (xWs κ σ) U.heap ∧ va_K κ.1 xCls (xTys κ) U ∧ xInj κ ∧ xSt κ (xA κ sz) U U.heap ∧ xEn U
theorem x_blind (κ : xKt) (σ : sW) (sz : Nat) (av : List Value) : FrameBlind (va_Pc av (xPre κ σ sz)) := by
  intro a U g mk h
  obtain ⟨h0, h1, h2, h3, h4, h5, h6⟩ := h
  exact ⟨h0, h1, h2, va_K.moved (u := U) (U := U.calling g mk a) (Vm.Alike.refl U.vm) h3, h4, xSt.moved (u := U) (U := U.calling g mk a) (Vm.Alike.refl U.vm) h5, xEn.same (s := U) (U := U.calling g mk a) rfl h6⟩
def xMi (l : Launch) (κ : xKt) (y : MethodName) (bytes : ByteArray) (maxL : Nat) (ret : Option FieldType) (rm : Room) (av : List Value) (σ σ' : sW) (r : Int32) : Prop := ∀ sz, Met l y (xWl y bytes maxL ret) rm (va_Pc av (xPre κ σ sz)) (va_Qi (fun r2 (_ : Unit) => r2 = r) (fun _ t => va_P κ.1 xCls (xWs κ σ') t.heap) (xA κ sz)) 0 0 (xA κ sz)
def xMl (l : Launch) (κ : xKt) (y : MethodName) (bytes : ByteArray) (maxL : Nat) (ret : Option FieldType) (rm : Room) (av : List Value) (σ σ' : sW) (r : Int64) : Prop := ∀ sz, Met l y (xWl y bytes maxL ret) rm (va_Pc av (xPre κ σ sz)) (va_Ql (fun r2 (_ : Unit) => r2 = r) (fun _ t => va_P κ.1 xCls (xWs κ σ') t.heap) (xA κ sz)) 0 0 (xA κ sz)
def xMv (l : Launch) (κ : xKt) (y : MethodName) (bytes : ByteArray) (maxL : Nat) (ret : Option FieldType) (rm : Room) (av : List Value) (σ σ' : sW) : Prop := ∀ sz, Met l y (xWl y bytes maxL ret) rm (va_Pc av (xPre κ σ sz)) (va_Qv (fun (_ : Unit) => True) (fun _ t => va_P κ.1 xCls (xWs κ σ') t.heap) (xA κ sz)) 0 0 (xA κ sz)
theorem x_ctx {l : Launch} {κ : xKt} {y : MethodName} {bytes : ByteArray} {maxL : Nat} {ret : Option FieldType} {rm : Room} {av : List Value} {σ : sW} {sz : Nat} {p : Program} {e : Env} {s : State} {m : MethodId} {args : Array Value} {below : List Frame} {meth : Method} {c : Code} {s₁ : State} (B : BodyLoose p l y (headSpec (xWl y bytes maxL ret) rm) bytes maxL ret e s m args below meth c s₁) (hml : c.maxLocals = maxL) (hv : va_Pc av (xPre κ σ sz) args s) : args = av.toArray ∧ s.heap.size = sz ∧ xC κ (xA κ s.heap.size) p s m args meth c bytes y.cls maxL ret ∧ xW κ (xA κ s.heap.size) s σ s.heap [] := by
  obtain ⟨h0, rfl, hP, hK, hi, hst, hen⟩ := hv
  have hts := atoms_spec (ws := xWl y bytes maxL ret) B.pre
  refine ⟨h0, rfl, ⟨⟨B.exec, B.bytes, hml, findClass_of_methodNamed B.named, fun w hw => hts w (List.mem_cons_of_mem _ hw)⟩, B.returns, B.notSynchronized, hK, hst, fun q h => Or.inr h, hi, fun k hk => Or.inl ⟨k, hk, rfl⟩, hen⟩, hP, va_S.rf⟩
theorem xMi_of {l : Launch} {κ : xKt} {y : MethodName} {bytes : ByteArray} {maxL : Nat} {rt : FieldType} {rm : Room} {av : List Value} {σ σ' : sW} {r : Int32} (hy : plainName y.cls = true) (hn : (lg_sl av).length ≤ maxL) (hrm : rm.cells = 0 ∧ rm.slots = 0)
    (body : ∀ (A : Nat → Prop) (p : Program) (e : Env) (s : State) (m : MethodId) (args : Array Value) (below : List Frame) (meth : Method) (c : Code) (ls : Array Slot) (Q : State → Prop), xC κ A p s m args meth c bytes y.cls maxL (some rt) → xW κ A s σ s.heap [] → lv_has ls maxL (lv_args 0 av) →
      (∀ (pc : Nat) (ls : Array Slot) (H : Heap) (locs : List Loc), decode bytes pc = .ok (.ireturn, 1) → narrow rt (.int r) = .int r → xW κ A s σ' H locs → W p l e rm s m args below meth c H locs 0 0 Q (F0 m pc ls [.int r])) → W p l e rm s m args below meth c s.heap [] 0 0 Q (F0 m 0 ls [])) : xMi l κ y bytes maxL (some rt) rm av σ σ' r := by
  intro sz
  refine Met.ofW (cc := bytes) (maxL := maxL) (ret := some rt) hy rfl ?_
  intro p e s m args below meth c s₁ B hml hv
  obtain ⟨rfl, rfl, hc, hw⟩ := x_ctx B hml hv
  have hl := lv_entry av (n := maxL) hn
  rw [lg_entry_eq]
  generalize (lg_sl av ++ List.replicate (maxL - (lg_sl av).length) Slot.unset).toArray = ls at hl ⊢
  refine body (xA κ s.heap.size) p e s m _ below meth c ls _ hc hw hl ?_
  intro pc ls H locs hd hn hw1
  exact W.zret (ty := rt) hc.1.1 hc.1.2.1 hc.2.1 hn (fun t ht _ => ⟨⟨r, (), rfl, rfl, by show va_P _ _ _ t.heap; rw [ht]; exact hw1.1⟩, hw1.2.F ht⟩) hw1.2.2.2 hd hc.2.2.1
theorem xMl_of {l : Launch} {κ : xKt} {y : MethodName} {bytes : ByteArray} {maxL : Nat} {rm : Room} {av : List Value} {σ σ' : sW} {r : Int64} (hy : plainName y.cls = true) (hn : (lg_sl av).length ≤ maxL) (hrm : rm.cells = 0 ∧ rm.slots = 0)
    (body : ∀ (A : Nat → Prop) (p : Program) (e : Env) (s : State) (m : MethodId) (args : Array Value) (below : List Frame) (meth : Method) (c : Code) (ls : Array Slot) (Q : State → Prop), xC κ A p s m args meth c bytes y.cls maxL (some .long) → xW κ A s σ s.heap [] → lv_has ls maxL (lv_args 0 av) →
      (∀ (pc : Nat) (ls : Array Slot) (H : Heap) (locs : List Loc), decode bytes pc = .ok (.lreturn, 1) → xW κ A s σ' H locs → W p l e rm s m args below meth c H locs 0 0 Q (F0 m pc ls [.long r])) → W p l e rm s m args below meth c s.heap [] 0 0 Q (F0 m 0 ls [])) : xMl l κ y bytes maxL (some .long) rm av σ σ' r := by
  intro sz
  refine Met.ofW (cc := bytes) (maxL := maxL) (ret := some .long) hy rfl ?_
  intro p e s m args below meth c s₁ B hml hv
  obtain ⟨rfl, rfl, hc, hw⟩ := x_ctx B hml hv
  have hl := lv_entry av (n := maxL) hn
  rw [lg_entry_eq]
  generalize (lg_sl av ++ List.replicate (maxL - (lg_sl av).length) Slot.unset).toArray = ls at hl ⊢
  refine body (xA κ s.heap.size) p e s m _ below meth c ls _ hc hw hl ?_
  intro pc ls H locs hd hw1
  exact W.lret hc.1.1 hc.1.2.1 hc.2.1 (fun t ht _ => ⟨⟨r, (), rfl, rfl, by show va_P _ _ _ t.heap; rw [ht]; exact hw1.1⟩, hw1.2.F ht⟩) hw1.2.2.2 hd hc.2.2.1
theorem xMv_of {l : Launch} {κ : xKt} {y : MethodName} {bytes : ByteArray} {maxL : Nat} {rm : Room} {av : List Value} {σ σ' : sW} (hy : plainName y.cls = true) (hn : (lg_sl av).length ≤ maxL) (hrm : rm.cells = 0 ∧ rm.slots = 0)
    (body : ∀ (A : Nat → Prop) (p : Program) (e : Env) (s : State) (m : MethodId) (args : Array Value) (below : List Frame) (meth : Method) (c : Code) (ls : Array Slot) (Q : State → Prop), xC κ A p s m args meth c bytes y.cls maxL none → xW κ A s σ s.heap [] → lv_has ls maxL (lv_args 0 av) →
      (∀ (pc : Nat) (ls : Array Slot) (H : Heap) (locs : List Loc), decode bytes pc = .ok (.return_, 1) → xW κ A s σ' H locs → W p l e rm s m args below meth c H locs 0 0 Q (F0 m pc ls [])) → W p l e rm s m args below meth c s.heap [] 0 0 Q (F0 m 0 ls [])) : xMv l κ y bytes maxL none rm av σ σ' := by
  intro sz
  refine Met.ofW (cc := bytes) (maxL := maxL) (ret := none) hy rfl ?_
  intro p e s m args below meth c s₁ B hml hv
  obtain ⟨rfl, rfl, hc, hw⟩ := x_ctx B hml hv
  have hl := lv_entry av (n := maxL) hn
  rw [lg_entry_eq]
  generalize (lg_sl av ++ List.replicate (maxL - (lg_sl av).length) Slot.unset).toArray = ls at hl ⊢
  refine body (xA κ s.heap.size) p e s m _ below meth c ls _ hc hw hl ?_
  intro pc ls H locs hd hw1
  exact W.vret hc.1.1 hc.1.2.1 hc.2.1 (fun t ht _ => ⟨⟨(), rfl, trivial, by show va_P _ _ _ t.heap; rw [ht]; exact hw1.1⟩, hw1.2.F ht⟩) hw1.2.2.2 hd hc.2.2.1
section XROWS
variable {κ : xKt} {A : Nat → Prop} {p : Program} {l : Launch} {e : Env} {R : Room} {s : State} {m : MethodId} {args : Array Value} {below : List Frame} {meth : Method} {c : Code} {H : Heap} {locs : List Loc} {cells slots : Nat} {Q : State → Prop}
variable {cc : ByteArray} {own : String} {nL : Nat} {ret : Option FieldType} {pc : Nat} {ls : Array Slot} {rest : List Value} {σ σ' : sW}
theorem x_get (hc : xC κ A p s m args meth c cc own nL ret) (hw : xW κ A s σ H locs) {q0 ci k index : Nat} {fs : List Value} {ty : FieldType} {fin : Bool} (he : xCl κ σ q0 (.inr (ci, fs))) (hF : xFl own index ci k ty fin) {v : Value} (hv : fs[k]? = some v) (hdg : decode cc pc = .ok (.getfield index, 3))
    (kk : W p l e R s m args below meth c H locs cells slots Q (F0 m (pc + 3) ls (v :: rest))) : W p l e R s m args below meth c H locs cells slots Q (F0 m pc ls (.ref (xAd κ q0) :: rest)) := by
  obtain ⟨C, T, N, ty0, h1, h2, h3, h4, h5, -⟩ := hF
  obtain ⟨⟨hx, hb, hml, hown, hts⟩, -, -, hK, -⟩ := hc
  exact va_get hx hb hts h2 hown hK hw.1 q0 (x_at he) h1 k h3 (hts _ h4) (by rw [h5]; exact fun _ h => h) hv hdg kk
theorem x_put (hc : xC κ A p s m args meth c cc own nL ret) (hw : xW κ A s σ H locs) {q0 ci k index : Nat} {fs : List Value} {ty : FieldType} (he : xCl κ σ q0 (.inr (ci, fs))) (hF : xFl own index ci k ty false) {v : Value} (hn : narrow ty v = v) (hfit : fits ty v = true) (hl : k < fs.length) (hset : xSet κ σ q0 (.inr (ci, fs.set k v)) σ') (hdg : decode cc pc = .ok (.putfield index, 3))
    (kk : ∀ (H : Heap) (locs : List Loc), xW κ A s σ' H locs → W p l e R s m args below meth c H locs cells slots Q (F0 m (pc + 3) ls rest)) : W p l e R s m args below meth c H locs cells slots Q (F0 m pc ls (v :: .ref (xAd κ q0) :: rest)) := by
  obtain ⟨C, T, N, ty0, h1, h2, h3, h4, h5, h6, h7, h8, h9⟩ := hF
  obtain ⟨⟨hx, hb, hml, hown, hts⟩, -, -, hK, -, -, hi, hA, -⟩ := hc
  refine va_put hx hb hts h2 ty0 h6 h7 hown hK hw.1 (x_D hi hA) hw.2 q0 (x_at he) h1 k h3 (hts _ h4) (by rw [h5]; exact fun _ h => h) h8 h9 hn hfit hl hdg (fun H1 locs1 a b d => ?_)
  rw [x_set hset] at a
  exact kk H1 locs1 ⟨a, d⟩
theorem x_iald (hc : xC κ A p s m args meth c cc own nL ret) (hw : xW κ A s σ H locs) {q0 n : Nat} {f : Nat → Int32} (he : xCl κ σ q0 (.inl (xcI κ, n, .inl f))) {i : Int32} (hin : xin i n = true) (hdg : decode cc pc = .ok (.iaload, 1))
    (kk : W p l e R s m args below meth c H locs cells slots Q (F0 m (pc + 1) ls (.int (f i.toNatClampNeg) :: rest))) : W p l e R s m args below meth c H locs cells slots Q (F0 m pc ls (.int i :: .ref (xAd κ q0) :: rest)) :=
  va_iald hc.1.1 hc.1.2.1 hc.2.2.2.1 hw.1 q0 0 (x_at he) rfl (xin_vp hin) hdg kk
theorem x_lald (hc : xC κ A p s m args meth c cc own nL ret) (hw : xW κ A s σ H locs) {q0 n : Nat} {f : Nat → Int64} (he : xCl κ σ q0 (.inl (xcJ κ, n, .inr (.inl f)))) {i : Int32} (hin : xin i n = true) (hdg : decode cc pc = .ok (.laload, 1))
    (kk : W p l e R s m args below meth c H locs cells slots Q (F0 m (pc + 1) ls (.long (f i.toNatClampNeg) :: rest))) : W p l e R s m args below meth c H locs cells slots Q (F0 m pc ls (.int i :: .ref (xAd κ q0) :: rest)) :=
  va_lald hc.1.1 hc.1.2.1 hc.2.2.2.1 hw.1 q0 1 (x_at he) rfl (xin_vp hin) hdg kk
theorem x_cald (hc : xC κ A p s m args meth c cc own nL ret) (hw : xW κ A s σ H locs) {q0 n : Nat} {f : Nat → Int32} (he : xCl κ σ q0 (.inl (xcC κ, n, .inl f))) {i : Int32} (hin : xin i n = true) (hdg : decode cc pc = .ok (.caload, 1))
    (kk : W p l e R s m args below meth c H locs cells slots Q (F0 m (pc + 1) ls (.int (f i.toNatClampNeg) :: rest))) : W p l e R s m args below meth c H locs cells slots Q (F0 m pc ls (.int i :: .ref (xAd κ q0) :: rest)) :=
  va_cald hc.1.1 hc.1.2.1 hc.2.2.2.1 hw.1 q0 2 (x_at he) rfl (xin_vp hin) hdg kk
theorem x_dald (hc : xC κ A p s m args meth c cc own nL ret) (hw : xW κ A s σ H locs) {q0 n : Nat} {f : Nat → UInt64} (he : xCl κ σ q0 (.inl (xcD κ, n, .inr (.inr (.inr (.inl f)))))) {i : Int32} (hin : xin i n = true) (hdg : decode cc pc = .ok (.daload, 1))
    (kk : W p l e R s m args below meth c H locs cells slots Q (F0 m (pc + 1) ls (.double (f i.toNatClampNeg) :: rest))) : W p l e R s m args below meth c H locs cells slots Q (F0 m pc ls (.int i :: .ref (xAd κ q0) :: rest)) :=
  va_dald hc.1.1 hc.1.2.1 hc.2.2.2.1 hw.1 q0 3 (x_at he) rfl (xin_vp hin) hdg kk
theorem x_aald (hc : xC κ A p s m args meth c cc own nL ret) (hw : xW κ A s σ H locs) {q0 n : Nat} {f : Nat → Option Nat} (he : xCl κ σ q0 (.inl (xcA κ, n, .inr (.inr (.inr (.inr f)))))) {i : Int32} (hin : xin i n = true) (hdg : decode cc pc = .ok (.aaload, 1))
    (kk : W p l e R s m args below meth c H locs cells slots Q (F0 m (pc + 1) ls (va_rf (f i.toNatClampNeg) :: rest))) : W p l e R s m args below meth c H locs cells slots Q (F0 m pc ls (.int i :: .ref (xAd κ q0) :: rest)) :=
  va_aldq hc.1.1 hc.1.2.1 hc.2.2.2.1 hw.1 q0 4 (x_at he) rfl (xin_vp hin) hdg kk
theorem x_iast (hc : xC κ A p s m args meth c cc own nL ret) (hw : xW κ A s σ H locs) {q0 n : Nat} {f : Nat → Int32} (he : xCl κ σ q0 (.inl (xcI κ, n, .inl f))) {i x : Int32} (hin : xin i n = true) (hset : xSet κ σ q0 (.inl (xcI κ, n, .inl (upd f i.toNatClampNeg x))) σ') (hdg : decode cc pc = .ok (.iastore, 1))
    (kk : ∀ (H : Heap) (locs : List Loc), xW κ A s σ' H locs → W p l e R s m args below meth c H locs cells slots Q (F0 m (pc + 1) ls rest)) : W p l e R s m args below meth c H locs cells slots Q (F0 m pc ls (.int x :: .int i :: .ref (xAd κ q0) :: rest)) := by
  refine va_iast hc.1.1 hc.1.2.1 hc.2.2.2.1 hw.1 (x_D hc.2.2.2.2.2.2.1 hc.2.2.2.2.2.2.2.1) hw.2 q0 0 (x_at he) rfl (xin_vp hin) hdg (fun H1 locs1 a b d => ?_)
  rw [x_set hset] at a
  exact kk H1 locs1 ⟨a, d⟩
theorem x_last (hc : xC κ A p s m args meth c cc own nL ret) (hw : xW κ A s σ H locs) {q0 n : Nat} {f : Nat → Int64} (he : xCl κ σ q0 (.inl (xcJ κ, n, .inr (.inl f)))) {i : Int32} {x : Int64} (hin : xin i n = true) (hset : xSet κ σ q0 (.inl (xcJ κ, n, .inr (.inl (vp_updL f i.toNatClampNeg x)))) σ') (hdg : decode cc pc = .ok (.lastore, 1))
    (kk : ∀ (H : Heap) (locs : List Loc), xW κ A s σ' H locs → W p l e R s m args below meth c H locs cells slots Q (F0 m (pc + 1) ls rest)) : W p l e R s m args below meth c H locs cells slots Q (F0 m pc ls (.long x :: .int i :: .ref (xAd κ q0) :: rest)) := by
  refine va_last hc.1.1 hc.1.2.1 hc.2.2.2.1 hw.1 (x_D hc.2.2.2.2.2.2.1 hc.2.2.2.2.2.2.2.1) hw.2 q0 1 (x_at he) rfl (xin_vp hin) hdg (fun H1 locs1 a b d => ?_)
  rw [x_set hset] at a
  exact kk H1 locs1 ⟨a, d⟩
theorem x_cast (hc : xC κ A p s m args meth c cc own nL ret) (hw : xW κ A s σ H locs) {q0 n : Nat} {f : Nat → Int32} (he : xCl κ σ q0 (.inl (xcC κ, n, .inl f))) {i x : Int32} (hin : xin i n = true) (hset : xSet κ σ q0 (.inl (xcC κ, n, .inl (upd f i.toNatClampNeg (vp_nar .char x)))) σ') (hdg : decode cc pc = .ok (.castore, 1))
    (kk : ∀ (H : Heap) (locs : List Loc), xW κ A s σ' H locs → W p l e R s m args below meth c H locs cells slots Q (F0 m (pc + 1) ls rest)) : W p l e R s m args below meth c H locs cells slots Q (F0 m pc ls (.int x :: .int i :: .ref (xAd κ q0) :: rest)) := by
  refine va_cast hc.1.1 hc.1.2.1 hc.2.2.2.1 hw.1 (x_D hc.2.2.2.2.2.2.1 hc.2.2.2.2.2.2.2.1) hw.2 q0 2 (x_at he) rfl (xin_vp hin) hdg (fun H1 locs1 a b d => ?_)
  rw [x_set hset] at a
  exact kk H1 locs1 ⟨a, d⟩
theorem x_dast (hc : xC κ A p s m args meth c cc own nL ret) (hw : xW κ A s σ H locs) {q0 n : Nat} {f : Nat → UInt64} (he : xCl κ σ q0 (.inl (xcD κ, n, .inr (.inr (.inr (.inl f)))))) {i : Int32} {x : UInt64} (hin : xin i n = true) (hset : xSet κ σ q0 (.inl (xcD κ, n, .inr (.inr (.inr (.inl (vf_upd f i.toNatClampNeg x)))))) σ') (hdg : decode cc pc = .ok (.dastore, 1))
    (kk : ∀ (H : Heap) (locs : List Loc), xW κ A s σ' H locs → W p l e R s m args below meth c H locs cells slots Q (F0 m (pc + 1) ls rest)) : W p l e R s m args below meth c H locs cells slots Q (F0 m pc ls (.double x :: .int i :: .ref (xAd κ q0) :: rest)) := by
  refine va_dast hc.1.1 hc.1.2.1 hc.2.2.2.1 hw.1 (x_D hc.2.2.2.2.2.2.1 hc.2.2.2.2.2.2.2.1) hw.2 q0 3 (x_at he) rfl (xin_vp hin) hdg (fun H1 locs1 a b d => ?_)
  rw [x_set hset] at a
  exact kk H1 locs1 ⟨a, d⟩
/-- the static row -/
theorem x_gets (hc : xC κ A p s m args meth c cc own nL ret) (hw : xW κ A s σ H locs) {index : Nat} (hlink : Cond.fieldLink own index "ArbitrationFees$Accounts" "TIER_FLOORS" "[I" ∈ gW) (hdg : decode cc pc = .ok (.getstatic index, 3))
    (kk : W p l e R s m args below meth c H locs cells slots Q (F0 m (pc + 3) ls (.ref (xTf κ) :: rest))) : W p l e R s m args below meth c H locs cells slots Q (F0 m pc ls rest) :=
  va_gets hc.1.1 hc.1.2.1 hc.2.2.2.2.1.2.2.1 hw.2 hc.1.2.2.2.1 (hc.1.2.2.2.2 _ hlink) (fun _ h => h) hdg kk
theorem x_getsR (hc : xC κ A p s m args meth c cc own nL ret) (hw : xW κ A s σ H locs) {index : Nat} (hlink : Cond.fieldLink own index "ArbitrationFees$Accounts" "FIRST_RATES" "[I" ∈ gW) (hdg : decode cc pc = .ok (.getstatic index, 3))
    (kk : W p l e R s m args below meth c H locs cells slots Q (F0 m (pc + 3) ls (.ref (xTr κ) :: rest))) : W p l e R s m args below meth c H locs cells slots Q (F0 m pc ls rest) :=
  va_gets hc.1.1 hc.1.2.1 hc.2.2.2.2.1.2.2.2.2.1 hw.2 hc.1.2.2.2.1 (hc.1.2.2.2.2 _ hlink) (fun _ h => h) hdg kk
theorem x_getsT (hc : xC κ A p s m args meth c cc own nL ret) (hw : xW κ A s σ H locs) {index : Nat} (hlink : Cond.fieldLink own index "ArbitrationFees$Accounts" "FIRST_TIERS" "[I" ∈ gW) (hdg : decode cc pc = .ok (.getstatic index, 3))
    (kk : W p l e R s m args below meth c H locs cells slots Q (F0 m (pc + 3) ls (.ref (xTt κ) :: rest))) : W p l e R s m args below meth c H locs cells slots Q (F0 m pc ls rest) :=
  va_gets hc.1.1 hc.1.2.1 hc.2.2.2.2.1.2.2.2.2.2.2.1 hw.2 hc.1.2.2.2.1 (hc.1.2.2.2.2 _ hlink) (fun _ h => h) hdg kk
theorem x_tald (hc : xC κ A p s m args meth c cc own nL ret) (hw : xW κ A s σ H locs) {i : Int32} (hin : xin i 4 = true) (hdg : decode cc pc = .ok (.iaload, 1))
    (kk : W p l e R s m args below meth c H locs cells slots Q (F0 m (pc + 1) ls (.int (xTier i.toNatClampNeg) :: rest))) : W p l e R s m args below meth c H locs cells slots Q (F0 m pc ls (.int i :: .ref (xTf κ) :: rest)) :=
  va_ti hc.1.1 hc.1.2.1 hc.2.2.2.2.1.2.2.2.1 hw.2 (xin_vp hin) rfl hdg kk
/-- what a callee may rely on -/
theorem x_pre (hc : xC κ A p s m args meth c cc own nL ret) (hw : xW κ A s σ H locs) : (∀ q, xA κ H.size q → A q) ∧ ∀ U : State, U.heap = H → s.WarmedH U.vm → xPre κ σ H.size U := by
  obtain ⟨-, -, -, hK, hst, hA, hi, hA2, hen⟩ := hc
  have h1 : ∀ q, xA κ H.size q → A q := by
    intro q hq
    rcases hq with ⟨k, hk, rfl⟩ | hq
    · exact hA2 k hk
    · exact hA q (Nat.le_trans hw.2.1 hq)
  refine ⟨h1, fun U hU hW => ?_⟩
  have hvm : s.vm.Alike U.vm := hW.alike
  refine ⟨by rw [hU], by rw [hU]; exact hw.1, va_K.moved hvm hK, hi, ?_, hen.warm hW⟩
  rw [hU]
  exact ((hst.kept hw.2.1 hw.2.2.1).narrow h1).moved hvm
variable {y : MethodName} {bytes : ByteArray} {maxL idx n ci q0 : Nat} {rt : Option FieldType} {rm : Room} {As : List Value} {fs : List Value} {b : Nat}
theorem x_calliV {st : List Value} (hc : xC κ A p s m args meth c cc own nL ret) (hw : xW κ A s σ H locs) (hsz : ls.size = nL) {r : Int32} (hM : xMi l κ y bytes maxL rt rm (.ref (xAd κ q0) :: As) σ σ' r) (hk : xVk own idx y bytes maxL rt n ci) (he : xCl κ σ q0 (.inr (ci, fs))) (hst : st = As.reverse ++ .ref (xAd κ q0) :: rest) (hn : As.length = n) (hm : rm.cells = 0 ∧ rm.slots = 0) (hR : rm.frames + 1 ≤ R.frames ∧ 8 + (maxL + 11) + rm.locals ≤ R.locals) (hcs : cells ≤ R.cells ∧ slots ≤ R.slots) (hrs : (rest.map fun v => v.category).sum ≤ 8) (hdg : decode cc pc = .ok (.invokevirtual idx, 3))
    (kk : ∀ (H : Heap) (locs : List Loc), xW κ A s σ' H locs → W p l e R s m args below meth c H locs cells slots Q (F0 m (pc + 3) ls (.int r :: rest))) : W p l e R s m args below meth c H locs cells slots Q (F0 m pc ls st) := by
  obtain ⟨h1, h2⟩ := x_pre hc hw
  obtain ⟨T, N, hcl⟩ := hk.2.2.2.2.2.2
  refine va_calli (va_runV (As := As) (rest := rest) (b := xAd κ q0) hc.1 (hM H.size) (cwV n hc.1.2.2.2.2 (x_goodV hk) rfl hm.1 hm.2 ⟨rfl, hk.2.2.2.2.2.1⟩ hR) ⟨x_blind _ _ _ _, va_recv hc.2.2.2.1 hw.1 hcl (x_at he), fun U hU hW => ⟨rfl, h2 U hU hW⟩⟩ rfl hn hsz hst (lv_room hrs) hdg ⟨hcs.1, hcs.2⟩) hw.2 (fun q _ h => h1 q h) h1 (fun r2 u t H1 locs1 ht hvm hw1 hB hz1 hk1 hS => ?_)
  subst hw1
  rw [ht] at hB
  exact kk H1 locs1 ⟨hB, hS⟩
theorem x_calllV {st : List Value} (hc : xC κ A p s m args meth c cc own nL ret) (hw : xW κ A s σ H locs) (hsz : ls.size = nL) {r : Int64} (hM : xMl l κ y bytes maxL rt rm (.ref (xAd κ q0) :: As) σ σ' r) (hk : xVk own idx y bytes maxL rt n ci) (he : xCl κ σ q0 (.inr (ci, fs))) (hst : st = As.reverse ++ .ref (xAd κ q0) :: rest) (hn : As.length = n) (hm : rm.cells = 0 ∧ rm.slots = 0) (hR : rm.frames + 1 ≤ R.frames ∧ 8 + (maxL + 11) + rm.locals ≤ R.locals) (hcs : cells ≤ R.cells ∧ slots ≤ R.slots) (hrs : (rest.map fun v => v.category).sum ≤ 8) (hdg : decode cc pc = .ok (.invokevirtual idx, 3))
    (kk : ∀ (H : Heap) (locs : List Loc), xW κ A s σ' H locs → W p l e R s m args below meth c H locs cells slots Q (F0 m (pc + 3) ls (.long r :: rest))) : W p l e R s m args below meth c H locs cells slots Q (F0 m pc ls st) := by
  obtain ⟨h1, h2⟩ := x_pre hc hw
  obtain ⟨T, N, hcl⟩ := hk.2.2.2.2.2.2
  refine va_calll (va_runV (As := As) (rest := rest) (b := xAd κ q0) hc.1 (hM H.size) (cwV n hc.1.2.2.2.2 (x_goodV hk) rfl hm.1 hm.2 ⟨rfl, hk.2.2.2.2.2.1⟩ hR) ⟨x_blind _ _ _ _, va_recv hc.2.2.2.1 hw.1 hcl (x_at he), fun U hU hW => ⟨rfl, h2 U hU hW⟩⟩ rfl hn hsz hst (lv_room hrs) hdg ⟨hcs.1, hcs.2⟩) hw.2 (fun q _ h => h1 q h) h1 (fun r2 u t H1 locs1 ht hvm hw1 hB hz1 hk1 hS => ?_)
  subst hw1
  rw [ht] at hB
  exact kk H1 locs1 ⟨hB, hS⟩
theorem x_callvV {st : List Value} (hc : xC κ A p s m args meth c cc own nL ret) (hw : xW κ A s σ H locs) (hsz : ls.size = nL) (hM : xMv l κ y bytes maxL rt rm (.ref (xAd κ q0) :: As) σ σ') (hk : xVk own idx y bytes maxL rt n ci) (he : xCl κ σ q0 (.inr (ci, fs))) (hst : st = As.reverse ++ .ref (xAd κ q0) :: rest) (hn : As.length = n) (hm : rm.cells = 0 ∧ rm.slots = 0) (hR : rm.frames + 1 ≤ R.frames ∧ 8 + (maxL + 11) + rm.locals ≤ R.locals) (hcs : cells ≤ R.cells ∧ slots ≤ R.slots) (hrs : (rest.map fun v => v.category).sum ≤ 8) (hdg : decode cc pc = .ok (.invokevirtual idx, 3))
    (kk : ∀ (H : Heap) (locs : List Loc), xW κ A s σ' H locs → W p l e R s m args below meth c H locs cells slots Q (F0 m (pc + 3) ls rest)) : W p l e R s m args below meth c H locs cells slots Q (F0 m pc ls st) := by
  obtain ⟨h1, h2⟩ := x_pre hc hw
  obtain ⟨T, N, hcl⟩ := hk.2.2.2.2.2.2
  refine va_callv (va_runV (As := As) (rest := rest) (b := xAd κ q0) hc.1 (hM H.size) (cwV n hc.1.2.2.2.2 (x_goodV hk) rfl hm.1 hm.2 ⟨rfl, hk.2.2.2.2.2.1⟩ hR) ⟨x_blind _ _ _ _, va_recv hc.2.2.2.1 hw.1 hcl (x_at he), fun U hU hW => ⟨rfl, h2 U hU hW⟩⟩ rfl hn hsz hst (lv_room hrs) hdg ⟨hcs.1, hcs.2⟩) hw.2 (fun q _ h => h1 q h) h1 (fun u t H1 locs1 ht hvm hw1 hB hz1 hk1 hS => ?_)
  rw [ht] at hB
  exact kk H1 locs1 ⟨hB, hS⟩
theorem x_calliS {st : List Value} (hc : xC κ A p s m args meth c cc own nL ret) (hw : xW κ A s σ H locs) (hsz : ls.size = nL) {r : Int32} (hM : xMi l κ y bytes maxL rt rm As σ σ' r) (hk : xSk own idx y bytes maxL rt n) (hst : st = As.reverse ++ rest) (hn : As.length = n) (hm : rm.cells = 0 ∧ rm.slots = 0) (hR : rm.frames + 1 ≤ R.frames ∧ 8 + (maxL + 11) + rm.locals ≤ R.locals) (hcs : cells ≤ R.cells ∧ slots ≤ R.slots) (hrs : (rest.map fun v => v.category).sum ≤ 8) (hdg : decode cc pc = .ok (.invokestatic idx, 3))
    (kk : ∀ (H : Heap) (locs : List Loc), xW κ A s σ' H locs → W p l e R s m args below meth c H locs cells slots Q (F0 m (pc + 3) ls (.int r :: rest))) : W p l e R s m args below meth c H locs cells slots Q (F0 m pc ls st) := by
  obtain ⟨h1, h2⟩ := x_pre hc hw
  refine va_calli (va_runS (As := As) (rest := rest) hc.1 (hM H.size) (va_cwS n hc.1.2.2.2.2 (x_goodS hk) rfl hm.1 hm.2 hk.2.2.2.2 hR) ⟨x_blind _ _ _ _, fun U hU hW => ⟨rfl, h2 U hU hW⟩⟩ rfl hn hsz hst (lv_room hrs) hdg ⟨hcs.1, hcs.2⟩) hw.2 (fun q _ h => h1 q h) h1 (fun r2 u t H1 locs1 ht hvm hw1 hB hz1 hk1 hS => ?_)
  subst hw1
  rw [ht] at hB
  exact kk H1 locs1 ⟨hB, hS⟩
theorem x_calllS {st : List Value} (hc : xC κ A p s m args meth c cc own nL ret) (hw : xW κ A s σ H locs) (hsz : ls.size = nL) {r : Int64} (hM : xMl l κ y bytes maxL rt rm As σ σ' r) (hk : xSk own idx y bytes maxL rt n) (hst : st = As.reverse ++ rest) (hn : As.length = n) (hm : rm.cells = 0 ∧ rm.slots = 0) (hR : rm.frames + 1 ≤ R.frames ∧ 8 + (maxL + 11) + rm.locals ≤ R.locals) (hcs : cells ≤ R.cells ∧ slots ≤ R.slots) (hrs : (rest.map fun v => v.category).sum ≤ 8) (hdg : decode cc pc = .ok (.invokestatic idx, 3))
    (kk : ∀ (H : Heap) (locs : List Loc), xW κ A s σ' H locs → W p l e R s m args below meth c H locs cells slots Q (F0 m (pc + 3) ls (.long r :: rest))) : W p l e R s m args below meth c H locs cells slots Q (F0 m pc ls st) := by
  obtain ⟨h1, h2⟩ := x_pre hc hw
  refine va_calll (va_runS (As := As) (rest := rest) hc.1 (hM H.size) (va_cwS n hc.1.2.2.2.2 (x_goodS hk) rfl hm.1 hm.2 hk.2.2.2.2 hR) ⟨x_blind _ _ _ _, fun U hU hW => ⟨rfl, h2 U hU hW⟩⟩ rfl hn hsz hst (lv_room hrs) hdg ⟨hcs.1, hcs.2⟩) hw.2 (fun q _ h => h1 q h) h1 (fun r2 u t H1 locs1 ht hvm hw1 hB hz1 hk1 hS => ?_)
  subst hw1
  rw [ht] at hB
  exact kk H1 locs1 ⟨hB, hS⟩
theorem x_callvS {st : List Value} (hc : xC κ A p s m args meth c cc own nL ret) (hw : xW κ A s σ H locs) (hsz : ls.size = nL) (hM : xMv l κ y bytes maxL rt rm As σ σ') (hk : xSk own idx y bytes maxL rt n) (hst : st = As.reverse ++ rest) (hn : As.length = n) (hm : rm.cells = 0 ∧ rm.slots = 0) (hR : rm.frames + 1 ≤ R.frames ∧ 8 + (maxL + 11) + rm.locals ≤ R.locals) (hcs : cells ≤ R.cells ∧ slots ≤ R.slots) (hrs : (rest.map fun v => v.category).sum ≤ 8) (hdg : decode cc pc = .ok (.invokestatic idx, 3))
    (kk : ∀ (H : Heap) (locs : List Loc), xW κ A s σ' H locs → W p l e R s m args below meth c H locs cells slots Q (F0 m (pc + 3) ls rest)) : W p l e R s m args below meth c H locs cells slots Q (F0 m pc ls st) := by
  obtain ⟨h1, h2⟩ := x_pre hc hw
  refine va_callv (va_runS (As := As) (rest := rest) hc.1 (hM H.size) (va_cwS n hc.1.2.2.2.2 (x_goodS hk) rfl hm.1 hm.2 hk.2.2.2.2 hR) ⟨x_blind _ _ _ _, fun U hU hW => ⟨rfl, h2 U hU hW⟩⟩ rfl hn hsz hst (lv_room hrs) hdg ⟨hcs.1, hcs.2⟩) hw.2 (fun q _ h => h1 q h) h1 (fun u t H1 locs1 ht hvm hw1 hB hz1 hk1 hS => ?_)
  rw [ht] at hB
  exact kk H1 locs1 ⟨hB, hS⟩
end XROWS
