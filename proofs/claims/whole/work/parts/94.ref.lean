-- the reference made: its empties over its own cells
section EMP
variable {κ : xKt} {A : Nat → Prop} {p : Program} {l : Launch} {e : Env} {R : Room} {s : State} {m : MethodId} {args : Array Value} {below : List Frame} {meth : Method} {c : Code} {H : Heap} {locs : List Loc} {cells slots : Nat} {Q : State → Prop}
variable {pc : Nat} {ls : Array Slot} {rest : List Value} {b q1 : Nat} {fs : List Value} {f : xF64}
abbrev eWs (κ : xKt) (b q1 : Nat) (fs : List Value) (f : xF64) : va_W := [(b, .inr (8, fs)), (q1, .inl (xcJ κ, 304, .inr (.inl f)))]
theorem e_get (hcf : CallFix p m c cX8_empties 2 s args gW RX8) (hK : va_K κ.1 xCls (xTys κ) s) (hw : iW κ A s (eWs κ b q1 fs f) H locs) (hfs : fs[1]? = some (.ref q1)) (hdg : decode cX8_empties pc = .ok (.getfield 7, 3))
    (kk : W p l e R s m args below meth c H locs cells slots Q (F0 m (pc + 3) ls (.ref q1 :: rest))) : W p l e R s m args below meth c H locs cells slots Q (F0 m pc ls (.ref b :: rest)) := by
  obtain ⟨C, T, N, ty0, h1, h2, h3, h4, h5, -⟩ := fX8_7
  obtain ⟨hx, hb, hml, hown, hts⟩ := hcf
  exact va_get hx hb hts h2 hown hK hw.1 0 rfl h1 1 h3 (hts _ h4) (by rw [h5]; exact fun _ h => h) hfs hdg kk
theorem e_last (hcf : CallFix p m c cX8_empties 2 s args gW RX8) (hK : va_K κ.1 xCls (xTys κ) s) (hw : iW κ A s (eWs κ b q1 fs f) H locs) {i : Int32} {x : Int64} (hin : xin i 304 = true) (hdg : decode cX8_empties pc = .ok (.lastore, 1))
    (kk : ∀ (H : Heap) (locs : List Loc), iW κ A s (eWs κ b q1 fs (vp_updL f i.toNatClampNeg x)) H locs → W p l e R s m args below meth c H locs cells slots Q (F0 m (pc + 1) ls rest)) : W p l e R s m args below meth c H locs cells slots Q (F0 m pc ls (.long x :: .int i :: .ref q1 :: rest)) :=
  va_last hcf.1 hcf.2.1 hK hw.1 hw.2.1 hw.2.2 1 1 rfl rfl (xin_vp hin) hdg (fun H1 locs1 a1 a2 a3 => kk H1 locs1 ⟨a1, a2, a3⟩)
theorem e_ldc (hcf : CallFix p m c cX8_empties 2 s args gW RX8) {index : Nat} {v : Int64} (hl : Cond.constantLong RX8 index v ∈ gW) (hdg : decode cX8_empties pc = .ok (.ldc2_w index, 3)) (kk : W p l e R s m args below meth c H locs cells slots Q (F0 m (pc + 3) ls (.long v :: rest))) : W p l e R s m args below meth c H locs cells slots Q (F0 m pc ls rest) :=
  lv_ldc2 hcf.1 hcf.2.1 hcf.2.2.2.1 (hcf.2.2.2.2 _ hl) hdg kk
end EMP
theorem e_loop {l : Launch} {κ : xKt} {fu : Nat} {A : Nat → Prop} {p : Program} {e : Env} {s : State} {m : MethodId} {args : Array Value} {below : List Frame} {meth : Method} {c : Code} {Q : State → Prop} {b q1 : Nat} {fs : List Value} {yF1 : xF64}
    (hcf : CallFix p m c cX8_empties 2 s args gW RX8) (hK : va_K κ.1 xCls (xTys κ) s) (hfs : fs[1]? = some (.ref q1))
    (K : ∀ (pc : Nat) (ls : Array Slot) (H : Heap) (locs : List Loc), decode cX8_empties pc = .ok (.return_, 1) → iW κ A s (eWs κ b q1 fs yF1) H locs → W p l e (xR 0 0 0) s m args below meth c H locs 0 0 Q (F0 m pc ls [])) :
    ∀ (n : Nat) (x1 : Int32) (uF1 : xF64) (H : Heap) (locs : List Loc) (ls : Array Slot), f_X8_empties_2 fu n x1 uF1 = some yF1 → iW κ A s (eWs κ b q1 fs uF1) H locs → lv_has ls 2 [(0, .ref b), (1, .int x1)] → W p l e (xR 0 0 0) s m args below meth c H locs 0 0 Q (F0 m 2 ls []) := by
  have hx := hcf.1
  have hb := hcf.2.1
  intro n
  induction n with
  | zero =>
    intro x1 uF1 H locs ls hf
    rw [f_X8_empties_2] at hf
    cases hf
  | succ n hi =>
    intro x1 uF1 H locs ls hf hw hl
    rw [f_X8_empties_2] at hf
    refine lv_iload_n hx hb dX8_empties_2 rfl (lv_at hl 1 rfl) ?_
    refine lv_sipush (v := 304) hx hb dX8_empties_3 (by decide) ?_
    refine lv_icmp_ge (tgt := 22) hx hb dX8_empties_6 (by decide) (fun c1 => ?_) (fun c1 => ?_)
    · have hf := xif_t c1 hf
      refine lv_aload_n hx hb dX8_empties_22 rfl (lv_at hl 0 rfl) ?_
      refine e_get hcf hK hw hfs dX8_empties_23 ?_
      refine lv_bipush (v := 7) hx hb dX8_empties_26 (by decide) ?_
      refine e_ldc hcf w_constantLong_RX8_45_400 dX8_empties_28 ?_
      obtain ⟨k2, hf⟩ := xk_of hf
      refine e_last hcf hK hw k2 dX8_empties_31 (fun H locs hw => ?_)
      refine lv_aload_n hx hb dX8_empties_32 rfl (lv_at hl 0 rfl) ?_
      refine e_get hcf hK hw hfs dX8_empties_33 ?_
      refine lv_bipush (v := 8) hx hb dX8_empties_36 (by decide) ?_
      refine e_ldc hcf w_constantLong_RX8_47_600 dX8_empties_38 ?_
      obtain ⟨k3, hf⟩ := xk_of hf
      refine e_last hcf hK hw k3 dX8_empties_41 (fun H locs hw => ?_)
      refine lv_aload_n hx hb dX8_empties_42 rfl (lv_at hl 0 rfl) ?_
      refine e_get hcf hK hw hfs dX8_empties_43 ?_
      refine lv_bipush (v := 9) hx hb dX8_empties_46 (by decide) ?_
      refine e_ldc hcf w_constantLong_RX8_49_900 dX8_empties_48 ?_
      obtain ⟨k4, hf⟩ := xk_of hf
      refine e_last hcf hK hw k4 dX8_empties_51 (fun H locs hw => ?_)
      refine lv_aload_n hx hb dX8_empties_52 rfl (lv_at hl 0 rfl) ?_
      refine e_get hcf hK hw hfs dX8_empties_53 ?_
      refine lv_bipush (v := 10) hx hb dX8_empties_56 (by decide) ?_
      refine e_ldc hcf w_constantLong_RX8_51_1000 dX8_empties_58 ?_
      obtain ⟨k5, hf⟩ := xk_of hf
      refine e_last hcf hK hw k5 dX8_empties_61 (fun H locs hw => ?_)
      refine lv_aload_n hx hb dX8_empties_62 rfl (lv_at hl 0 rfl) ?_
      refine e_get hcf hK hw hfs dX8_empties_63 ?_
      refine lv_bipush (v := 11) hx hb dX8_empties_66 (by decide) ?_
      refine e_ldc hcf w_constantLong_RX8_53_500 dX8_empties_68 ?_
      obtain ⟨k6, hf⟩ := xk_of hf
      refine e_last hcf hK hw k6 dX8_empties_71 (fun H locs hw => ?_)
      refine lv_aload_n hx hb dX8_empties_72 rfl (lv_at hl 0 rfl) ?_
      refine e_get hcf hK hw hfs dX8_empties_73 ?_
      refine lv_bipush (v := 12) hx hb dX8_empties_76 (by decide) ?_
      refine e_ldc hcf w_constantLong_RX8_55_250 dX8_empties_78 ?_
      obtain ⟨k7, hf⟩ := xk_of hf
      refine e_last hcf hK hw k7 dX8_empties_81 (fun H locs hw => ?_)
      refine lv_aload_n hx hb dX8_empties_82 rfl (lv_at hl 0 rfl) ?_
      refine e_get hcf hK hw hfs dX8_empties_83 ?_
      refine lv_bipush (v := 13) hx hb dX8_empties_86 (by decide) ?_
      refine e_ldc hcf w_constantLong_RX8_57_100 dX8_empties_88 ?_
      obtain ⟨k8, hf⟩ := xk_of hf
      refine e_last hcf hK hw k8 dX8_empties_91 (fun H locs hw => ?_)
      cases hf
      exact K _ _ _ _ dX8_empties_92 hw
    · have hf := xif_f c1 hf
      refine lv_aload_n hx hb dX8_empties_9 rfl (lv_at hl 0 rfl) ?_
      refine e_get hcf hK hw hfs dX8_empties_10 ?_
      refine lv_iload_n hx hb dX8_empties_13 rfl (lv_at hl 1 rfl) ?_
      refine lv_lconst (v := 0) hx hb dX8_empties_14 (by decide) ?_
      obtain ⟨k9, hf⟩ := xk_of hf
      refine e_last hcf hK hw k9 dX8_empties_15 (fun H locs hw => ?_)
      refine lv_iinc (v := (x1 + 1)) (lv' := [(1, .int (x1 + 1)), (0, .ref (b))]) hx hb dX8_empties_16 hl (k := 1) rfl rfl (by decide) rfl (fun ls hl => ?_)
      refine lv_goto (tgt := 2) hx hb dX8_empties_19 (by decide) ?_
      exact hi _ _ _ _ _ hf hw (lv_sub hl [1, 0] rfl)
def ePre (κ : xKt) (b q1 : Nat) (fs : List Value) (f : xF64) (sz : Nat) (U : State) : Prop := U.heap.size = sz ∧ va_P κ.1 xCls (eWs κ b q1 fs f) U.heap ∧ va_K κ.1 xCls (xTys κ) U ∧ va_D (fun _ => True) (eWs κ b q1 fs f)
theorem e_empties {l : Launch} {κ : xKt} {fu b q1 : Nat} {fs : List Value} {f f' : xF64} (hf : f_X8_empties fu f = some f') (hfs : fs[1]? = some (.ref q1)) (sz : Nat) : Met l yX8_empties (xWl yX8_empties cX8_empties 2 none) (xR 0 0 0) (va_Pc [.ref b] (ePre κ b q1 fs f sz)) (va_Qv (fun _ : Unit => True) (fun _ t => va_P κ.1 xCls (eWs κ b q1 fs f') t.heap ∧ va_D (va_A (eWs κ b q1 fs f) sz) (eWs κ b q1 fs f')) (va_A (eWs κ b q1 fs f) sz)) 0 0 (va_A (eWs κ b q1 fs f) sz) := by
  refine Met.ofW (cc := cX8_empties) (maxL := 2) (ret := none) pn_X8 rfl ?_
  intro p e s m args below meth c s₁ B hml hv
  obtain ⟨rfl, hsz, hP, hK, hD0⟩ := hv
  subst hsz
  have hts := atoms_spec (ws := xWl yX8_empties cX8_empties 2 none) B.pre
  have hl := lv_entry ([.ref b]) (n := 2) (Nat.le_of_ble_eq_true rfl)
  rw [lg_entry_eq]
  generalize (lg_sl ([.ref b]) ++ List.replicate (2 - (lg_sl ([.ref b])).length) Slot.unset).toArray = ls at hl ⊢
  have hl : lv_has ls 2 [(0, .ref b)] := hl
  have hcf : CallFix p m c cX8_empties 2 s #[.ref b] gW RX8 := ⟨B.exec, B.bytes, hml, findClass_of_methodNamed B.named, fun w hw => hts w (List.mem_cons_of_mem _ hw)⟩
  have hx := hcf.1
  have hb := hcf.2.1
  refine lv_iconst (v := 0) hx hb dX8_empties_0 (by decide) ?_
  refine lv_istore_n (lv' := [(1, .int 0), (0, .ref b)]) hx hb dX8_empties_1 rfl hl (by decide) rfl (fun ls hl => ?_)
  refine e_loop (A := va_A (eWs κ b q1 fs f) s.heap.size) hcf hK hfs (fun pc ls H locs hd hw => ?_) fu _ _ _ _ _ hf ⟨hP, hD0.self, va_S.rf⟩ (lv_sub hl [1, 0] rfl)
  exact W.vret B.exec B.bytes B.returns (fun t ht _ => ⟨⟨(), rfl, trivial, by rw [ht]; exact hw.1, hw.2.1⟩, hw.2.2.F ht⟩) hw.2.2.2.2 hd B.notSynchronized
def eF1 : xF64 := match f_X8_empties 2000 (fun _ => 0) with
  | some f => f
  | none => fun _ => 0
theorem eF1_ok : f_X8_empties 2000 (fun _ => 0) = some eF1 ∧ ZS eF1 := by
  obtain ⟨f, h1, h2⟩ := k_empties (fu := 2000) (by omega) (fun _ => 0)
  have e : eF1 = f := by
    unfold eF1
    rw [h1]
  rw [e]
  exact ⟨h1, h2⟩
def shX8 (κ : xKt) (g : Nat → Nat) (j : Nat) : va_E := match j with
  | 0 => .inr (8, [.int 0, .ref (g 1), .ref (g 2), .ref (g 3), .ref (g 4), .int 0, .int 0, .int 0, .ref (g 5), .int 0, .int (-1), .long 0, .ref (g 6), .int 0, .int 0, .int 0, .ref (g 7), .ref (g 8), .int 0])
  | 1 => .inl (xcJ κ, 304, .inr (.inl eF1))
  | 2 => .inl (xcJ κ, 304, .inr (.inl (fun _ => 0)))
  | 3 => .inl (xcJ κ, 304, .inr (.inl (fun _ => 0)))
  | 4 => .inl (xcJ κ, 1824, .inr (.inl (fun _ => 0)))
  | 5 => .inl (xcI κ, 70, .inl (fun _ => 0))
  | 6 => .inl (xcI κ, 6, .inl (fun _ => 0))
  | 7 => .inl (xcI κ, 36, .inl (fun _ => 0))
  | _ => .inl (xcI κ, 108, .inl (fun _ => 0))
set_option maxHeartbeats 4000000 in
set_option maxRecDepth 100000 in
theorem iX8_init (l : Launch) (κ : xKt) : iM l κ yX8_init cX8_init 1 ({ frames := 12, cells := 8, slots := 2956, locals := 220 }) 8 [.int 0, .null, .null, .null, .null, .int 0, .int 0, .int 0, .null, .int 0, .int 0, .long 0, .null, .int 0, .int 0, .int 0, .null, .null, .int 0] 9 (shX8 κ) 8 2956 := by
  refine iM_of pn_X8 rfl (by decide) ?_
  intro b A p e s m args below meth c ls Q hc hw hl K
  have hx := hc.1.1
  have hb := hc.1.2.1
  have go : ∀ (H : Heap) (locs : List Loc), iW κ A s [(b, .inr (8, [.int 0, .null, .null, .null, .null, .int 0, .int 0, .int 0, .null, .int 0, .int 0, .long 0, .null, .int 0, .int 0, .int 0, .null, .null, .int 0]))] H locs → W p l e ({ frames := 12, cells := 8, slots := 2956, locals := 220 }) s m args below meth c H locs 0 0 Q (F0 m 0 ls []) := by
    intro H locs hw
    refine lv_aload_n hx hb dX8_init_0 rfl (lv_at hl 0 rfl) ?_
    refine i_obj hc hl.1 (wI_all _ (List.mem_of_getElem? (i := 7) rfl)) (wI_all _ (List.mem_of_getElem? (i := 9) rfl)) (wI_all _ (List.mem_of_getElem? (i := 10) rfl)) ⟨by decide, by decide⟩ dX8_init_1 ?_
    refine lv_aload_n hx hb dX8_init_4 rfl (lv_at hl 0 rfl) ?_
    refine lv_sipush (v := 304) hx hb dX8_init_5 (by decide) ?_
    refine i_newJ hc hw (wI_all _ (List.mem_of_getElem? (i := 12) rfl)) (by decide) rfl (by decide) ⟨by decide, by decide⟩ dX8_init_8 (fun q1 H hw => ?_)
    have hw : iW κ A s [(b, .inr (8, [.int 0, .null, .null, .null, .null, .int 0, .int 0, .int 0, .null, .int 0, .int 0, .long 0, .null, .int 0, .int 0, .int 0, .null, .null, .int 0])), (q1, .inl (xcJ κ, 304, .inr (.inl (fun _ => 0))))] H locs := hw
    refine i_putF hc hw 0 rfl fX8_7 (fun C T N h => by cases h; rfl) rfl rfl (Nat.le_of_ble_eq_true rfl) (ws' := [(b, .inr (8, [.int 0, .ref q1, .null, .null, .null, .int 0, .int 0, .int 0, .null, .int 0, .int 0, .long 0, .null, .int 0, .int 0, .int 0, .null, .null, .int 0])), (q1, .inl (xcJ κ, 304, .inr (.inl (fun _ => 0))))]) rfl dX8_init_10 (fun H locs hw => ?_)
    refine lv_aload_n hx hb dX8_init_13 rfl (lv_at hl 0 rfl) ?_
    refine lv_sipush (v := 304) hx hb dX8_init_14 (by decide) ?_
    refine i_newJ hc hw (wI_all _ (List.mem_of_getElem? (i := 12) rfl)) (by decide) rfl (by decide) ⟨by decide, by decide⟩ dX8_init_17 (fun q2 H hw => ?_)
    have hw : iW κ A s [(b, .inr (8, [.int 0, .ref q1, .null, .null, .null, .int 0, .int 0, .int 0, .null, .int 0, .int 0, .long 0, .null, .int 0, .int 0, .int 0, .null, .null, .int 0])), (q1, .inl (xcJ κ, 304, .inr (.inl (fun _ => 0)))), (q2, .inl (xcJ κ, 304, .inr (.inl (fun _ => 0))))] H locs := hw
    refine i_putF hc hw 0 rfl fX8_13 (fun C T N h => by cases h; rfl) rfl rfl (Nat.le_of_ble_eq_true rfl) (ws' := [(b, .inr (8, [.int 0, .ref q1, .ref q2, .null, .null, .int 0, .int 0, .int 0, .null, .int 0, .int 0, .long 0, .null, .int 0, .int 0, .int 0, .null, .null, .int 0])), (q1, .inl (xcJ κ, 304, .inr (.inl (fun _ => 0)))), (q2, .inl (xcJ κ, 304, .inr (.inl (fun _ => 0))))]) rfl dX8_init_19 (fun H locs hw => ?_)
    refine lv_aload_n hx hb dX8_init_22 rfl (lv_at hl 0 rfl) ?_
    refine lv_sipush (v := 304) hx hb dX8_init_23 (by decide) ?_
    refine i_newJ hc hw (wI_all _ (List.mem_of_getElem? (i := 12) rfl)) (by decide) rfl (by decide) ⟨by decide, by decide⟩ dX8_init_26 (fun q3 H hw => ?_)
    have hw : iW κ A s [(b, .inr (8, [.int 0, .ref q1, .ref q2, .null, .null, .int 0, .int 0, .int 0, .null, .int 0, .int 0, .long 0, .null, .int 0, .int 0, .int 0, .null, .null, .int 0])), (q1, .inl (xcJ κ, 304, .inr (.inl (fun _ => 0)))), (q2, .inl (xcJ κ, 304, .inr (.inl (fun _ => 0)))), (q3, .inl (xcJ κ, 304, .inr (.inl (fun _ => 0))))] H locs := hw
    refine i_putF hc hw 0 rfl fX8_16 (fun C T N h => by cases h; rfl) rfl rfl (Nat.le_of_ble_eq_true rfl) (ws' := [(b, .inr (8, [.int 0, .ref q1, .ref q2, .ref q3, .null, .int 0, .int 0, .int 0, .null, .int 0, .int 0, .long 0, .null, .int 0, .int 0, .int 0, .null, .null, .int 0])), (q1, .inl (xcJ κ, 304, .inr (.inl (fun _ => 0)))), (q2, .inl (xcJ κ, 304, .inr (.inl (fun _ => 0)))), (q3, .inl (xcJ κ, 304, .inr (.inl (fun _ => 0))))]) rfl dX8_init_28 (fun H locs hw => ?_)
    refine lv_aload_n hx hb dX8_init_31 rfl (lv_at hl 0 rfl) ?_
    refine lv_sipush (v := 1824) hx hb dX8_init_32 (by decide) ?_
    refine i_newJ hc hw (wI_all _ (List.mem_of_getElem? (i := 12) rfl)) (by decide) rfl (by decide) ⟨by decide, by decide⟩ dX8_init_35 (fun q4 H hw => ?_)
    have hw : iW κ A s [(b, .inr (8, [.int 0, .ref q1, .ref q2, .ref q3, .null, .int 0, .int 0, .int 0, .null, .int 0, .int 0, .long 0, .null, .int 0, .int 0, .int 0, .null, .null, .int 0])), (q1, .inl (xcJ κ, 304, .inr (.inl (fun _ => 0)))), (q2, .inl (xcJ κ, 304, .inr (.inl (fun _ => 0)))), (q3, .inl (xcJ κ, 304, .inr (.inl (fun _ => 0)))), (q4, .inl (xcJ κ, 1824, .inr (.inl (fun _ => 0))))] H locs := hw
    refine i_putF hc hw 0 rfl fX8_19 (fun C T N h => by cases h; rfl) rfl rfl (Nat.le_of_ble_eq_true rfl) (ws' := [(b, .inr (8, [.int 0, .ref q1, .ref q2, .ref q3, .ref q4, .int 0, .int 0, .int 0, .null, .int 0, .int 0, .long 0, .null, .int 0, .int 0, .int 0, .null, .null, .int 0])), (q1, .inl (xcJ κ, 304, .inr (.inl (fun _ => 0)))), (q2, .inl (xcJ κ, 304, .inr (.inl (fun _ => 0)))), (q3, .inl (xcJ κ, 304, .inr (.inl (fun _ => 0)))), (q4, .inl (xcJ κ, 1824, .inr (.inl (fun _ => 0))))]) rfl dX8_init_37 (fun H locs hw => ?_)
    refine lv_aload_n hx hb dX8_init_40 rfl (lv_at hl 0 rfl) ?_
    refine lv_bipush (v := 70) hx hb dX8_init_41 (by decide) ?_
    refine i_newI hc hw (wI_all _ (List.mem_of_getElem? (i := 11) rfl)) (by decide) rfl (by decide) ⟨by decide, by decide⟩ dX8_init_43 (fun q5 H hw => ?_)
    have hw : iW κ A s [(b, .inr (8, [.int 0, .ref q1, .ref q2, .ref q3, .ref q4, .int 0, .int 0, .int 0, .null, .int 0, .int 0, .long 0, .null, .int 0, .int 0, .int 0, .null, .null, .int 0])), (q1, .inl (xcJ κ, 304, .inr (.inl (fun _ => 0)))), (q2, .inl (xcJ κ, 304, .inr (.inl (fun _ => 0)))), (q3, .inl (xcJ κ, 304, .inr (.inl (fun _ => 0)))), (q4, .inl (xcJ κ, 1824, .inr (.inl (fun _ => 0)))), (q5, .inl (xcI κ, 70, .inl (fun _ => 0)))] H locs := hw
    refine i_putF hc hw 0 rfl fX8_22 (fun C T N h => by cases h; rfl) rfl rfl (Nat.le_of_ble_eq_true rfl) (ws' := [(b, .inr (8, [.int 0, .ref q1, .ref q2, .ref q3, .ref q4, .int 0, .int 0, .int 0, .ref q5, .int 0, .int 0, .long 0, .null, .int 0, .int 0, .int 0, .null, .null, .int 0])), (q1, .inl (xcJ κ, 304, .inr (.inl (fun _ => 0)))), (q2, .inl (xcJ κ, 304, .inr (.inl (fun _ => 0)))), (q3, .inl (xcJ κ, 304, .inr (.inl (fun _ => 0)))), (q4, .inl (xcJ κ, 1824, .inr (.inl (fun _ => 0)))), (q5, .inl (xcI κ, 70, .inl (fun _ => 0)))]) rfl dX8_init_45 (fun H locs hw => ?_)
    refine lv_aload_n hx hb dX8_init_48 rfl (lv_at hl 0 rfl) ?_
    refine lv_iconst (v := (-1)) hx hb dX8_init_49 (by decide) ?_
    refine i_put hc hw 0 rfl fX8_26 rfl rfl (Nat.le_of_ble_eq_true rfl) (ws' := [(b, .inr (8, [.int 0, .ref q1, .ref q2, .ref q3, .ref q4, .int 0, .int 0, .int 0, .ref q5, .int 0, .int (-1), .long 0, .null, .int 0, .int 0, .int 0, .null, .null, .int 0])), (q1, .inl (xcJ κ, 304, .inr (.inl (fun _ => 0)))), (q2, .inl (xcJ κ, 304, .inr (.inl (fun _ => 0)))), (q3, .inl (xcJ κ, 304, .inr (.inl (fun _ => 0)))), (q4, .inl (xcJ κ, 1824, .inr (.inl (fun _ => 0)))), (q5, .inl (xcI κ, 70, .inl (fun _ => 0)))]) rfl dX8_init_50 (fun H locs hw => ?_)
    refine lv_aload_n hx hb dX8_init_53 rfl (lv_at hl 0 rfl) ?_
    refine lv_bipush (v := 6) hx hb dX8_init_54 (by decide) ?_
    refine i_newI hc hw (wI_all _ (List.mem_of_getElem? (i := 11) rfl)) (by decide) rfl (by decide) ⟨by decide, by decide⟩ dX8_init_56 (fun q6 H hw => ?_)
    have hw : iW κ A s [(b, .inr (8, [.int 0, .ref q1, .ref q2, .ref q3, .ref q4, .int 0, .int 0, .int 0, .ref q5, .int 0, .int (-1), .long 0, .null, .int 0, .int 0, .int 0, .null, .null, .int 0])), (q1, .inl (xcJ κ, 304, .inr (.inl (fun _ => 0)))), (q2, .inl (xcJ κ, 304, .inr (.inl (fun _ => 0)))), (q3, .inl (xcJ κ, 304, .inr (.inl (fun _ => 0)))), (q4, .inl (xcJ κ, 1824, .inr (.inl (fun _ => 0)))), (q5, .inl (xcI κ, 70, .inl (fun _ => 0))), (q6, .inl (xcI κ, 6, .inl (fun _ => 0)))] H locs := hw
    refine i_putF hc hw 0 rfl fX8_30 (fun C T N h => by cases h; rfl) rfl rfl (Nat.le_of_ble_eq_true rfl) (ws' := [(b, .inr (8, [.int 0, .ref q1, .ref q2, .ref q3, .ref q4, .int 0, .int 0, .int 0, .ref q5, .int 0, .int (-1), .long 0, .ref q6, .int 0, .int 0, .int 0, .null, .null, .int 0])), (q1, .inl (xcJ κ, 304, .inr (.inl (fun _ => 0)))), (q2, .inl (xcJ κ, 304, .inr (.inl (fun _ => 0)))), (q3, .inl (xcJ κ, 304, .inr (.inl (fun _ => 0)))), (q4, .inl (xcJ κ, 1824, .inr (.inl (fun _ => 0)))), (q5, .inl (xcI κ, 70, .inl (fun _ => 0))), (q6, .inl (xcI κ, 6, .inl (fun _ => 0)))]) rfl dX8_init_58 (fun H locs hw => ?_)
    refine lv_aload_n hx hb dX8_init_61 rfl (lv_at hl 0 rfl) ?_
    refine lv_bipush (v := 36) hx hb dX8_init_62 (by decide) ?_
    refine i_newI hc hw (wI_all _ (List.mem_of_getElem? (i := 11) rfl)) (by decide) rfl (by decide) ⟨by decide, by decide⟩ dX8_init_64 (fun q7 H hw => ?_)
    have hw : iW κ A s [(b, .inr (8, [.int 0, .ref q1, .ref q2, .ref q3, .ref q4, .int 0, .int 0, .int 0, .ref q5, .int 0, .int (-1), .long 0, .ref q6, .int 0, .int 0, .int 0, .null, .null, .int 0])), (q1, .inl (xcJ κ, 304, .inr (.inl (fun _ => 0)))), (q2, .inl (xcJ κ, 304, .inr (.inl (fun _ => 0)))), (q3, .inl (xcJ κ, 304, .inr (.inl (fun _ => 0)))), (q4, .inl (xcJ κ, 1824, .inr (.inl (fun _ => 0)))), (q5, .inl (xcI κ, 70, .inl (fun _ => 0))), (q6, .inl (xcI κ, 6, .inl (fun _ => 0))), (q7, .inl (xcI κ, 36, .inl (fun _ => 0)))] H locs := hw
    refine i_putF hc hw 0 rfl fX8_33 (fun C T N h => by cases h; rfl) rfl rfl (Nat.le_of_ble_eq_true rfl) (ws' := [(b, .inr (8, [.int 0, .ref q1, .ref q2, .ref q3, .ref q4, .int 0, .int 0, .int 0, .ref q5, .int 0, .int (-1), .long 0, .ref q6, .int 0, .int 0, .int 0, .ref q7, .null, .int 0])), (q1, .inl (xcJ κ, 304, .inr (.inl (fun _ => 0)))), (q2, .inl (xcJ κ, 304, .inr (.inl (fun _ => 0)))), (q3, .inl (xcJ κ, 304, .inr (.inl (fun _ => 0)))), (q4, .inl (xcJ κ, 1824, .inr (.inl (fun _ => 0)))), (q5, .inl (xcI κ, 70, .inl (fun _ => 0))), (q6, .inl (xcI κ, 6, .inl (fun _ => 0))), (q7, .inl (xcI κ, 36, .inl (fun _ => 0)))]) rfl dX8_init_66 (fun H locs hw => ?_)
    refine lv_aload_n hx hb dX8_init_69 rfl (lv_at hl 0 rfl) ?_
    refine lv_bipush (v := 108) hx hb dX8_init_70 (by decide) ?_
    refine i_newI hc hw (wI_all _ (List.mem_of_getElem? (i := 11) rfl)) (by decide) rfl (by decide) ⟨by decide, by decide⟩ dX8_init_72 (fun q8 H hw => ?_)
    have hw : iW κ A s [(b, .inr (8, [.int 0, .ref q1, .ref q2, .ref q3, .ref q4, .int 0, .int 0, .int 0, .ref q5, .int 0, .int (-1), .long 0, .ref q6, .int 0, .int 0, .int 0, .ref q7, .null, .int 0])), (q1, .inl (xcJ κ, 304, .inr (.inl (fun _ => 0)))), (q2, .inl (xcJ κ, 304, .inr (.inl (fun _ => 0)))), (q3, .inl (xcJ κ, 304, .inr (.inl (fun _ => 0)))), (q4, .inl (xcJ κ, 1824, .inr (.inl (fun _ => 0)))), (q5, .inl (xcI κ, 70, .inl (fun _ => 0))), (q6, .inl (xcI κ, 6, .inl (fun _ => 0))), (q7, .inl (xcI κ, 36, .inl (fun _ => 0))), (q8, .inl (xcI κ, 108, .inl (fun _ => 0)))] H locs := hw
    refine i_putF hc hw 0 rfl fX8_36 (fun C T N h => by cases h; rfl) rfl rfl (Nat.le_of_ble_eq_true rfl) (ws' := [(b, .inr (8, [.int 0, .ref q1, .ref q2, .ref q3, .ref q4, .int 0, .int 0, .int 0, .ref q5, .int 0, .int (-1), .long 0, .ref q6, .int 0, .int 0, .int 0, .ref q7, .ref q8, .int 0])), (q1, .inl (xcJ κ, 304, .inr (.inl (fun _ => 0)))), (q2, .inl (xcJ κ, 304, .inr (.inl (fun _ => 0)))), (q3, .inl (xcJ κ, 304, .inr (.inl (fun _ => 0)))), (q4, .inl (xcJ κ, 1824, .inr (.inl (fun _ => 0)))), (q5, .inl (xcI κ, 70, .inl (fun _ => 0))), (q6, .inl (xcI κ, 6, .inl (fun _ => 0))), (q7, .inl (xcI κ, 36, .inl (fun _ => 0))), (q8, .inl (xcI κ, 108, .inl (fun _ => 0)))]) rfl dX8_init_74 (fun H locs hw => ?_)
    refine lv_aload_n hx hb dX8_init_77 rfl (lv_at hl 0 rfl) ?_
    obtain ⟨hP, hD, hS⟩ := hw
    have hK := hc.2.2.2.2.1
    have hA := hc.2.2.2.2.2.1
    have hPc := hP.sub (ws' := (eWs κ b q1 [.int 0, .ref q1, .ref q2, .ref q3, .ref q4, .int 0, .int 0, .int 0, .ref q5, .int 0, .int (-1), .long 0, .ref q6, .int 0, .int 0, .int 0, .ref q7, .ref q8, .int 0] (fun _ => 0))) [0, 1] rfl
    have hDc := hD.sub (ws' := (eWs κ b q1 [.int 0, .ref q1, .ref q2, .ref q3, .ref q4, .int 0, .int 0, .int 0, .ref q5, .int 0, .int (-1), .long 0, .ref q6, .int 0, .int 0, .int 0, .ref q7, .ref q8, .int 0] (fun _ => 0))) [0, 1] (by decide) rfl
    have hFc := va_free (wc := (eWs κ b q1 [.int 0, .ref q1, .ref q2, .ref q3, .ref q4, .int 0, .int 0, .int 0, .ref q5, .int 0, .int (-1), .long 0, .ref q6, .int 0, .int 0, .int 0, .ref q7, .ref q8, .int 0] (fun _ => 0))) hD hS hA [0, 1] rfl
    refine va_callv (va_runV (As := []) (rest := []) (b := b) hc.1 (e_empties (q1 := q1) eF1_ok.1 rfl H.size) (cwV 0 hc.1.2.2.2.2 (x_goodV kX8_39) rfl rfl rfl ⟨rfl, kX8_39.2.2.2.2.2.1⟩ ⟨by decide, by decide⟩) ⟨fun a U g mk h => ⟨h.1, h.2.1, h.2.2.1, va_K.moved (u := U) (U := U.calling g mk a) (Vm.Alike.refl U.vm) h.2.2.2.1, h.2.2.2.2⟩, va_recv hK hP (ci := 8) (q0 := 0) rfl rfl, fun U hU hW => ⟨rfl, by rw [hU], by rw [hU]; exact hPc, va_K.moved hW.alike hK, hDc.weaken (fun _ _ _ _ => trivial)⟩⟩ rfl rfl hl.1 rfl (lv_room (Nat.le_of_ble_eq_true rfl)) dX8_init_78 ⟨by decide, by decide⟩) hS (fun q _ h => hFc q h) hFc (fun u t H1 locs1 ht hvm h5 hB hz1 hk1 hS1 => ?_)
    obtain ⟨hP1, hD1⟩ := hB
    rw [ht] at hP1
    obtain ⟨hP2, hD2⟩ := va_join (wr := [(q2, .inl (xcJ κ, 304, .inr (.inl (fun _ => 0)))), (q3, .inl (xcJ κ, 304, .inr (.inl (fun _ => 0)))), (q4, .inl (xcJ κ, 1824, .inr (.inl (fun _ => 0)))), (q5, .inl (xcI κ, 70, .inl (fun _ => 0))), (q6, .inl (xcI κ, 6, .inl (fun _ => 0))), (q7, .inl (xcI κ, 36, .inl (fun _ => 0))), (q8, .inl (xcI κ, 108, .inl (fun _ => 0)))]) (w1 := (eWs κ b q1 [.int 0, .ref q1, .ref q2, .ref q3, .ref q4, .int 0, .int 0, .int 0, .ref q5, .int 0, .int (-1), .long 0, .ref q6, .int 0, .int 0, .int 0, .ref q7, .ref q8, .int 0] eF1)) hP hD [0, 1] [2, 3, 4, 5, 6, 7, 8] rfl rfl (by decide) (by decide) hk1 hFc hP1 hD1
    have hP3 := hP2.sub (ws' := [(b, .inr (8, [.int 0, .ref q1, .ref q2, .ref q3, .ref q4, .int 0, .int 0, .int 0, .ref q5, .int 0, .int (-1), .long 0, .ref q6, .int 0, .int 0, .int 0, .ref q7, .ref q8, .int 0])), (q1, .inl (xcJ κ, 304, .inr (.inl eF1))), (q2, .inl (xcJ κ, 304, .inr (.inl (fun _ => 0)))), (q3, .inl (xcJ κ, 304, .inr (.inl (fun _ => 0)))), (q4, .inl (xcJ κ, 1824, .inr (.inl (fun _ => 0)))), (q5, .inl (xcI κ, 70, .inl (fun _ => 0))), (q6, .inl (xcI κ, 6, .inl (fun _ => 0))), (q7, .inl (xcI κ, 36, .inl (fun _ => 0))), (q8, .inl (xcI κ, 108, .inl (fun _ => 0)))]) [7, 8, 0, 1, 2, 3, 4, 5, 6] rfl
    have hD3 := hD2.sub (ws' := [(b, .inr (8, [.int 0, .ref q1, .ref q2, .ref q3, .ref q4, .int 0, .int 0, .int 0, .ref q5, .int 0, .int (-1), .long 0, .ref q6, .int 0, .int 0, .int 0, .ref q7, .ref q8, .int 0])), (q1, .inl (xcJ κ, 304, .inr (.inl eF1))), (q2, .inl (xcJ κ, 304, .inr (.inl (fun _ => 0)))), (q3, .inl (xcJ κ, 304, .inr (.inl (fun _ => 0)))), (q4, .inl (xcJ κ, 1824, .inr (.inl (fun _ => 0)))), (q5, .inl (xcI κ, 70, .inl (fun _ => 0))), (q6, .inl (xcI κ, 6, .inl (fun _ => 0))), (q7, .inl (xcI κ, 36, .inl (fun _ => 0))), (q8, .inl (xcI κ, 108, .inl (fun _ => 0)))]) [7, 8, 0, 1, 2, 3, 4, 5, 6] (by decide) rfl
    exact K 81 ls H1 locs1 (fun j => match j with | 0 => b | 1 => q1 | 2 => q2 | 3 => q3 | 4 => q4 | 5 => q5 | 6 => q6 | 7 => q7 | _ => q8) dX8_init_81 rfl ⟨hP3, hD3, hS1⟩
  exact go s.heap [] hw
