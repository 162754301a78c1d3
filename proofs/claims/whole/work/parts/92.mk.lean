-- an object made by its constructor
theorem i_blind (κ : xKt) (b ci : Nat) (fs : List Value) (sz : Nat) (av : List Value) : FrameBlind (va_Pc av (iPre κ b ci fs sz)) := by
  intro a U g mk h
  obtain ⟨h0, h1, h2, h3, h4, h5⟩ := h
  exact ⟨h0, h1, h2, va_K.moved (u := U) (U := U.calling g mk a) (Vm.Alike.refl U.vm) h3, h4, iEn.same (s := U) (U := U.calling g mk a) rfl h5.1, xS2.moved (u := U) (U := U.calling g mk a) (Vm.Alike.refl U.vm) h5.2⟩
theorem i_join {κ : xKt} {A : Nat → Prop} {w0 w1 : va_W} {q : Nat} {e : va_E} {H H1 : Heap} (hP : va_P κ.1 xCls (w0 ++ [(q, e)]) H) (hD : va_D A (w0 ++ [(q, e)])) (hk : ∀ x : Nat, x < H.size → ¬ va_A [(q, e)] H.size x → H1[x]? = H[x]?) (hF : ∀ x, va_A [(q, e)] H.size x → A x) (hP1 : va_P κ.1 xCls w1 H1) (hD1 : va_D (va_A [(q, e)] H.size) w1) : va_P κ.1 xCls (w0 ++ w1) H1 ∧ va_D A (w0 ++ w1) := by
  have at0 : ∀ (k : Nat) (x : Nat × va_E), w0[k]? = some x → (w0 ++ [(q, e)])[k]? = some x ∧ k < w0.length := fun k x hx => by
    have hl : k < w0.length := (List.getElem?_eq_some_iff.mp hx).1
    exact ⟨by rw [List.getElem?_append_left hl]; exact hx, hl⟩
  have atq : (w0 ++ [(q, e)])[w0.length]? = some (q, e) := by simp
  have apart : ∀ (k : Nat) (x : Nat × va_E), w0[k]? = some x → x.1 < H.size ∧ ¬ va_A [(q, e)] H.size x.1 := fun k x hx => by
    obtain ⟨h1, h2⟩ := at0 k x hx
    have h3 := (hP k x h1).lt
    refine ⟨h3, fun h => ?_⟩
    rcases h with ⟨j, e', hj⟩ | h
    · have hj0 : j < 1 := (List.getElem?_eq_some_iff.mp hj).1
      obtain rfl : j = 0 := by omega
      cases hj
      have := hD.1 k w0.length x (x.1, e) h1 atq rfl
      omega
    · exact absurd h3 (Nat.not_lt.mpr h)
  have h0 : va_P κ.1 xCls w0 H1 := fun k x hx => (hP k x (at0 k x hx).1).kept (hk _ (apart k x hx).1 (apart k x hx).2)
  have d0 : va_D A w0 := ⟨fun i j x y hx hy h => hD.1 i j x y (at0 i x hx).1 (at0 j y hy).1 h, fun k x hx => hD.2 k x (at0 k x hx).1⟩
  exact ⟨h0.app hP1, d0.app (hD1.weaken (fun _ x _ h => hF x.1 h)) (fun i j x y hx hy h => (apart i x hx).2 (by rw [h]; exact hD1.2 j y hy))⟩
def iNk (own : String) (i1 i2 : Nat) (y : MethodName) (bytes : ByteArray) (maxL : Nat) (C : String) (T : u_T) (N ci : Nat) (fs : List Value) : Prop := y.cls = C ∧ y.name = "<init>" ∧ xCls[ci]? = some (C, T, N) ∧ (∀ w ∈ u_ws C T N, w ∈ gW) ∧ (∃ ty : Nat → FieldType, (∀ k, k < N → parseFieldDescriptor (T k).2.2.1 = some (ty k)) ∧ ∀ j, j < N → defaultValue (ty j) = vp_V fs j) ∧ Cond.classLink own i1 C ∈ gW ∧ Cond.instantiable C N ∈ gW ∧ Cond.initialized C ∈ gW ∧ Cond.instanceMethod y ∈ gW ∧ Cond.code y bytes maxL none ∈ gW ∧ (y.cls ≠ "java/lang/invoke/MethodHandle" ∧ y.cls ≠ "java/lang/invoke/VarHandle" ∧ (parseMethodDescriptor y.desc).map (fun d => d.parameters.length) = some 0)
section IMK
variable {κ : xKt} {A : Nat → Prop} {p : Program} {l : Launch} {e : Env} {R : Room} {s : State} {m : MethodId} {args : Array Value} {below : List Frame} {meth : Method} {c : Code} {H : Heap} {locs : List Loc} {cells slots : Nat} {Q : State → Prop}
variable {cc : ByteArray} {own : String} {nL : Nat} {pc : Nat} {ls : Array Slot} {rest : List Value} {w0 : va_W} {y : MethodName} {bytes : ByteArray} {maxL i1 i2 N ci n mc ms : Nat} {C : String} {T : u_T} {fs : List Value} {rm : Room} {sh : (Nat → Nat) → Nat → va_E}
theorem i_mk (hx : CallFix p m c cc nL s args gW own) (hK : va_K κ.1 xCls (xTys κ) s) (hA : ∀ q, s.heap.size ≤ q → A q) (hEn : iEn s ∧ xS2 κ A s s.heap) (hw : iW κ A s w0 H locs) (hsz : ls.size = nL) (hk : iNk own i1 i2 y bytes maxL C T N ci fs) (hM : iM l κ y bytes maxL rm ci fs n sh mc ms) (hl : (own, i2, y) ∈ xNest ∨ Cond.methodLink own i2 y ∈ gW) (hm : rm.cells = mc ∧ rm.slots = ms) (hR : rm.frames + 1 ≤ R.frames ∧ 8 + (maxL + 11) + rm.locals ≤ R.locals) (hcs : cells + 1 + mc ≤ R.cells ∧ slots + N + ms ≤ R.slots) (hrs : (rest.map fun v => v.category).sum ≤ 7) (d1 : decode cc pc = .ok (.new i1, 3)) (d2 : decode cc (pc + 3) = .ok (.dup, 1)) (d3 : decode cc (pc + 3 + 1) = .ok (.invokespecial i2, 3))
    (kk : ∀ (g : Nat → Nat) (H : Heap) (locs : List Loc), iW κ A s (w0 ++ iWs n sh g) H locs → W p l e R s m args below meth c H locs (cells + 1 + mc) (slots + N + ms) Q (F0 m (pc + 3 + 1 + 3) ls (.ref (g 0) :: rest))) : W p l e R s m args below meth c H locs cells slots Q (F0 m pc ls rest) := by
  obtain ⟨k1, k2, k3, k4, ⟨ty, k5, k6⟩, k7, k8, k9, k10, k11, k12⟩ := hk
  obtain ⟨hx0, hb, hml, hown, hts⟩ := hx
  subst k1
  refine va_new (ci := ci) (fs := fs) hx0 hb hts k4 ty k5 hown (hts _ k7) (hts _ k8) (hts _ k9) hK hw.1 hw.2.1 hw.2.2 hA k3 k6 (by omega) (by omega) d1 (fun q H hP hD hS => ?_)
  refine lv_dup hx0 hb d2 rfl ?_
  have hFc : ∀ x, va_A [(q, .inr (ci, fs))] H.size x → A x := fun x h => by
    rcases h with ⟨j, e', hj⟩ | h
    · have hj0 : j < 1 := (List.getElem?_eq_some_iff.mp hj).1
      obtain rfl : j = 0 := by omega
      cases hj
      exact hD.2 w0.length (q, .inr (ci, fs)) (by simp)
    · exact hA x (Nat.le_trans hS.1 h)
  have hPc : va_P κ.1 xCls [(q, .inr (ci, fs))] H := fun k x hx => by
    have hj0 : k < 1 := (List.getElem?_eq_some_iff.mp hx).1
    obtain rfl : k = 0 := by omega
    cases hx
    exact hP w0.length _ (by simp)
  have hDc : va_D (fun _ => True) [(q, (.inr (ci, fs) : va_E))] := ⟨fun i j x z hi hj _ => by
    have h1 : i < 1 := (List.getElem?_eq_some_iff.mp hi).1
    have h2 : j < 1 := (List.getElem?_eq_some_iff.mp hj).1
    omega, fun _ _ _ => trivial⟩
  have hr : va_Run p l e R s m args below meth c H locs (cells + 1) (slots + N) mc ms (F0 m (pc + 3 + 1) ls (.ref q :: .ref q :: rest)) (.ref q :: rest) (va_Qv (fun _ : Unit => True) (fun _ t => iPost κ q n sh (va_A [(q, .inr (ci, fs))] H.size) t) (va_A [(q, .inr (ci, fs))] H.size) (Value.ref q :: []).toArray) (va_A [(q, .inr (ci, fs))] H.size) := by
    have hpre : PreS s H (va_Pc [.ref q] (iPre κ q ci fs H.size)) (.ref q :: []) := ⟨i_blind _ _ _ _ _ _, fun U hU hW => ⟨rfl, by rw [hU], by rw [hU]; exact hPc, va_K.moved hW.alike hK, hDc, iEn.warm hW hEn.1, by rw [hU]; exact ((hEn.2.kept hS.2.1).narrow hFc).moved hW.alike⟩⟩
    have hroom : 2 * (F0 m (pc + 3 + 1) ls (.ref q :: .ref q :: rest)).monitorRoom + ((Value.ref q :: rest).map fun v => v.category).sum ≤ 8 := lv_room (by
      show 1 + (rest.map fun v => v.category).sum ≤ 8
      omega)
    rcases hl with hl | hl
    · exact va_runIN (As := []) ⟨hx0, hb, hml, hown, hts⟩ (hM q H.size) ⟨va_cnB 0 hts (x_goodL k11) rfl hm.1 hm.2 (hEn.1.1.2.2.2 _ hl) (hts _ k9) k12 hR, k2, hts _ k10⟩ hpre rfl rfl hsz rfl hroom d3 hcs
    · exact va_runI (As := []) ⟨hx0, hb, hml, hown, hts⟩ (hM q H.size) (cwI 0 hts (x_goodL k11) rfl hm.1 hm.2 (hts _ k9) (hts _ hl) (hts _ k10) k2 k12 hR) hpre rfl rfl hsz rfl hroom d3 hcs
  refine va_callv hr hS (fun x _ h => hFc x h) hFc (fun u t H1 locs1 ht hvm _ hB hz1 hk1 hS1 => ?_)
  obtain ⟨g, g0, hP1, hD1⟩ := hB
  rw [ht] at hP1
  obtain ⟨a1, a2⟩ := i_join hP hD hk1 hFc hP1 hD1
  have := kk g H1 locs1 ⟨a1, a2, hS1⟩
  rw [g0] at this
  exact this
end IMK
