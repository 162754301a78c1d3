-- the plain constructors
theorem wI_all : ∀ w ∈ ([.methodLink RX4 3 objectInit, .methodLink RX1 3 objectInit, .methodLink RX2 3 objectInit, .methodLink RX3 3 objectInit, .methodLink RX5 3 objectInit, .methodLink RX6 3 objectInit, .methodLink RX7 1 objectInit, .methodLink RX8 1 objectInit, .methodLink RX0 3 objectInit, .instanceMethod objectInit, .code objectInit ⟨#[0xb1]⟩ 1 none, .arrayClass .int, .arrayClass .long, .arrayClass .char, .arrayClass .double] : List Cond), w ∈ gW := xin_ws (by decide +kernel)
def shX4 (κ : xKt) (g : Nat → Nat) (j : Nat) : va_E := match j with
  | 0 => .inr (4, [.int 0, .ref (g 1), .ref (g 2), .ref (g 3), .ref (g 4), .ref (g 5), .ref (g 6)])
  | 1 => .inl (xcI κ, 6, .inl (fun _ => 0))
  | 2 => .inl (xcI κ, 6, .inl (fun _ => 0))
  | 3 => .inl (xcJ κ, 6, .inr (.inl (fun _ => 0)))
  | 4 => .inl (xcJ κ, 6, .inr (.inl (fun _ => 0)))
  | 5 => .inl (xcJ κ, 6, .inr (.inl (fun _ => 0)))
  | _ => .inl (xcJ κ, 6, .inr (.inl (fun _ => 0)))
theorem iX4_init (l : Launch) (κ : xKt) : iM l κ yX4_init cX4_init 1 ({ frames := 1, cells := 6, slots := 36, locals := 40 }) 4 [.int 0, .null, .null, .null, .null, .null, .null] 7 (shX4 κ) 6 36 := by
  refine iM_of pn_X4 rfl (by decide) ?_
  intro b A p e s m args below meth c ls Q hc hw hl K
  have hx := hc.1.1
  have hb := hc.1.2.1
  have go : ∀ (H : Heap) (locs : List Loc), iW κ A s [(b, .inr (4, [.int 0, .null, .null, .null, .null, .null, .null]))] H locs → W p l e ({ frames := 1, cells := 6, slots := 36, locals := 40 }) s m args below meth c H locs 0 0 Q (F0 m 0 ls []) := by
    intro H locs hw
    refine lv_aload_n hx hb dX4_init_0 rfl (lv_at hl 0 rfl) ?_
    refine i_obj hc hl.1 (wI_all _ (List.mem_of_getElem? (i := 0) rfl)) (wI_all _ (List.mem_of_getElem? (i := 9) rfl)) (wI_all _ (List.mem_of_getElem? (i := 10) rfl)) ⟨by decide, by decide⟩ dX4_init_1 ?_
    refine lv_aload_n hx hb dX4_init_4 rfl (lv_at hl 0 rfl) ?_
    refine lv_iconst (v := 0) hx hb dX4_init_5 (by decide) ?_
    refine i_put hc hw 0 rfl fX4_9 rfl rfl (Nat.le_of_ble_eq_true rfl) (ws' := [(b, .inr (4, [.int 0, .null, .null, .null, .null, .null, .null]))]) rfl dX4_init_6 (fun H locs hw => ?_)
    refine lv_aload_n hx hb dX4_init_9 rfl (lv_at hl 0 rfl) ?_
    refine lv_bipush (v := 6) hx hb dX4_init_10 (by decide) ?_
    refine i_newI hc hw (wI_all _ (List.mem_of_getElem? (i := 11) rfl)) (by decide) rfl (by decide) ⟨by decide, by decide⟩ dX4_init_12 (fun q1 H hw => ?_)
    have hw : iW κ A s [(b, .inr (4, [.int 0, .null, .null, .null, .null, .null, .null])), (q1, .inl (xcI κ, 6, .inl (fun _ => 0)))] H locs := hw
    refine i_putF hc hw 0 rfl fX4_15 (fun C T N h => by cases h; rfl) rfl rfl (Nat.le_of_ble_eq_true rfl) (ws' := [(b, .inr (4, [.int 0, .ref q1, .null, .null, .null, .null, .null])), (q1, .inl (xcI κ, 6, .inl (fun _ => 0)))]) rfl dX4_init_14 (fun H locs hw => ?_)
    refine lv_aload_n hx hb dX4_init_17 rfl (lv_at hl 0 rfl) ?_
    refine lv_bipush (v := 6) hx hb dX4_init_18 (by decide) ?_
    refine i_newI hc hw (wI_all _ (List.mem_of_getElem? (i := 11) rfl)) (by decide) rfl (by decide) ⟨by decide, by decide⟩ dX4_init_20 (fun q2 H hw => ?_)
    have hw : iW κ A s [(b, .inr (4, [.int 0, .ref q1, .null, .null, .null, .null, .null])), (q1, .inl (xcI κ, 6, .inl (fun _ => 0))), (q2, .inl (xcI κ, 6, .inl (fun _ => 0)))] H locs := hw
    refine i_putF hc hw 0 rfl fX4_19 (fun C T N h => by cases h; rfl) rfl rfl (Nat.le_of_ble_eq_true rfl) (ws' := [(b, .inr (4, [.int 0, .ref q1, .ref q2, .null, .null, .null, .null])), (q1, .inl (xcI κ, 6, .inl (fun _ => 0))), (q2, .inl (xcI κ, 6, .inl (fun _ => 0)))]) rfl dX4_init_22 (fun H locs hw => ?_)
    refine lv_aload_n hx hb dX4_init_25 rfl (lv_at hl 0 rfl) ?_
    refine lv_bipush (v := 6) hx hb dX4_init_26 (by decide) ?_
    refine i_newJ hc hw (wI_all _ (List.mem_of_getElem? (i := 12) rfl)) (by decide) rfl (by decide) ⟨by decide, by decide⟩ dX4_init_28 (fun q3 H hw => ?_)
    have hw : iW κ A s [(b, .inr (4, [.int 0, .ref q1, .ref q2, .null, .null, .null, .null])), (q1, .inl (xcI κ, 6, .inl (fun _ => 0))), (q2, .inl (xcI κ, 6, .inl (fun _ => 0))), (q3, .inl (xcJ κ, 6, .inr (.inl (fun _ => 0))))] H locs := hw
    refine i_putF hc hw 0 rfl fX4_22 (fun C T N h => by cases h; rfl) rfl rfl (Nat.le_of_ble_eq_true rfl) (ws' := [(b, .inr (4, [.int 0, .ref q1, .ref q2, .ref q3, .null, .null, .null])), (q1, .inl (xcI κ, 6, .inl (fun _ => 0))), (q2, .inl (xcI κ, 6, .inl (fun _ => 0))), (q3, .inl (xcJ κ, 6, .inr (.inl (fun _ => 0))))]) rfl dX4_init_30 (fun H locs hw => ?_)
    refine lv_aload_n hx hb dX4_init_33 rfl (lv_at hl 0 rfl) ?_
    refine lv_bipush (v := 6) hx hb dX4_init_34 (by decide) ?_
    refine i_newJ hc hw (wI_all _ (List.mem_of_getElem? (i := 12) rfl)) (by decide) rfl (by decide) ⟨by decide, by decide⟩ dX4_init_36 (fun q4 H hw => ?_)
    have hw : iW κ A s [(b, .inr (4, [.int 0, .ref q1, .ref q2, .ref q3, .null, .null, .null])), (q1, .inl (xcI κ, 6, .inl (fun _ => 0))), (q2, .inl (xcI κ, 6, .inl (fun _ => 0))), (q3, .inl (xcJ κ, 6, .inr (.inl (fun _ => 0)))), (q4, .inl (xcJ κ, 6, .inr (.inl (fun _ => 0))))] H locs := hw
    refine i_putF hc hw 0 rfl fX4_26 (fun C T N h => by cases h; rfl) rfl rfl (Nat.le_of_ble_eq_true rfl) (ws' := [(b, .inr (4, [.int 0, .ref q1, .ref q2, .ref q3, .ref q4, .null, .null])), (q1, .inl (xcI κ, 6, .inl (fun _ => 0))), (q2, .inl (xcI κ, 6, .inl (fun _ => 0))), (q3, .inl (xcJ κ, 6, .inr (.inl (fun _ => 0)))), (q4, .inl (xcJ κ, 6, .inr (.inl (fun _ => 0))))]) rfl dX4_init_38 (fun H locs hw => ?_)
    refine lv_aload_n hx hb dX4_init_41 rfl (lv_at hl 0 rfl) ?_
    refine lv_bipush (v := 6) hx hb dX4_init_42 (by decide) ?_
    refine i_newJ hc hw (wI_all _ (List.mem_of_getElem? (i := 12) rfl)) (by decide) rfl (by decide) ⟨by decide, by decide⟩ dX4_init_44 (fun q5 H hw => ?_)
    have hw : iW κ A s [(b, .inr (4, [.int 0, .ref q1, .ref q2, .ref q3, .ref q4, .null, .null])), (q1, .inl (xcI κ, 6, .inl (fun _ => 0))), (q2, .inl (xcI κ, 6, .inl (fun _ => 0))), (q3, .inl (xcJ κ, 6, .inr (.inl (fun _ => 0)))), (q4, .inl (xcJ κ, 6, .inr (.inl (fun _ => 0)))), (q5, .inl (xcJ κ, 6, .inr (.inl (fun _ => 0))))] H locs := hw
    refine i_putF hc hw 0 rfl fX4_29 (fun C T N h => by cases h; rfl) rfl rfl (Nat.le_of_ble_eq_true rfl) (ws' := [(b, .inr (4, [.int 0, .ref q1, .ref q2, .ref q3, .ref q4, .ref q5, .null])), (q1, .inl (xcI κ, 6, .inl (fun _ => 0))), (q2, .inl (xcI κ, 6, .inl (fun _ => 0))), (q3, .inl (xcJ κ, 6, .inr (.inl (fun _ => 0)))), (q4, .inl (xcJ κ, 6, .inr (.inl (fun _ => 0)))), (q5, .inl (xcJ κ, 6, .inr (.inl (fun _ => 0))))]) rfl dX4_init_46 (fun H locs hw => ?_)
    refine lv_aload_n hx hb dX4_init_49 rfl (lv_at hl 0 rfl) ?_
    refine lv_bipush (v := 6) hx hb dX4_init_50 (by decide) ?_
    refine i_newJ hc hw (wI_all _ (List.mem_of_getElem? (i := 12) rfl)) (by decide) rfl (by decide) ⟨by decide, by decide⟩ dX4_init_52 (fun q6 H hw => ?_)
    have hw : iW κ A s [(b, .inr (4, [.int 0, .ref q1, .ref q2, .ref q3, .ref q4, .ref q5, .null])), (q1, .inl (xcI κ, 6, .inl (fun _ => 0))), (q2, .inl (xcI κ, 6, .inl (fun _ => 0))), (q3, .inl (xcJ κ, 6, .inr (.inl (fun _ => 0)))), (q4, .inl (xcJ κ, 6, .inr (.inl (fun _ => 0)))), (q5, .inl (xcJ κ, 6, .inr (.inl (fun _ => 0)))), (q6, .inl (xcJ κ, 6, .inr (.inl (fun _ => 0))))] H locs := hw
    refine i_putF hc hw 0 rfl fX4_32 (fun C T N h => by cases h; rfl) rfl rfl (Nat.le_of_ble_eq_true rfl) (ws' := [(b, .inr (4, [.int 0, .ref q1, .ref q2, .ref q3, .ref q4, .ref q5, .ref q6])), (q1, .inl (xcI κ, 6, .inl (fun _ => 0))), (q2, .inl (xcI κ, 6, .inl (fun _ => 0))), (q3, .inl (xcJ κ, 6, .inr (.inl (fun _ => 0)))), (q4, .inl (xcJ κ, 6, .inr (.inl (fun _ => 0)))), (q5, .inl (xcJ κ, 6, .inr (.inl (fun _ => 0)))), (q6, .inl (xcJ κ, 6, .inr (.inl (fun _ => 0))))]) rfl dX4_init_54 (fun H locs hw => ?_)
    exact K 57 ls H locs (fun j => match j with | 0 => b | 1 => q1 | 2 => q2 | 3 => q3 | 4 => q4 | 5 => q5 | _ => q6) dX4_init_57 rfl hw
  exact go s.heap [] hw
def shX1 (κ : xKt) (g : Nat → Nat) (j : Nat) : va_E := match j with
  | 0 => .inr (1, [.int 0, .ref (g 1), .ref (g 2), .ref (g 3), .ref (g 4), .ref (g 5), .ref (g 6)])
  | 1 => .inl (xcI κ, 12, .inl (fun _ => 0))
  | 2 => .inl (xcI κ, 12, .inl (fun _ => 0))
  | 3 => .inl (xcI κ, 12, .inl (fun _ => 0))
  | 4 => .inl (xcI κ, 12, .inl (fun _ => 0))
  | 5 => .inl (xcI κ, 12, .inl (fun _ => 0))
  | _ => .inl (xcI κ, 12, .inl (fun _ => 0))
theorem iX1_init (l : Launch) (κ : xKt) : iM l κ yX1_init cX1_init 1 ({ frames := 1, cells := 6, slots := 72, locals := 40 }) 1 [.int 0, .null, .null, .null, .null, .null, .null] 7 (shX1 κ) 6 72 := by
  refine iM_of pn_X1 rfl (by decide) ?_
  intro b A p e s m args below meth c ls Q hc hw hl K
  have hx := hc.1.1
  have hb := hc.1.2.1
  have go : ∀ (H : Heap) (locs : List Loc), iW κ A s [(b, .inr (1, [.int 0, .null, .null, .null, .null, .null, .null]))] H locs → W p l e ({ frames := 1, cells := 6, slots := 72, locals := 40 }) s m args below meth c H locs 0 0 Q (F0 m 0 ls []) := by
    intro H locs hw
    refine lv_aload_n hx hb dX1_init_0 rfl (lv_at hl 0 rfl) ?_
    refine i_obj hc hl.1 (wI_all _ (List.mem_of_getElem? (i := 1) rfl)) (wI_all _ (List.mem_of_getElem? (i := 9) rfl)) (wI_all _ (List.mem_of_getElem? (i := 10) rfl)) ⟨by decide, by decide⟩ dX1_init_1 ?_
    refine lv_aload_n hx hb dX1_init_4 rfl (lv_at hl 0 rfl) ?_
    refine lv_iconst (v := 0) hx hb dX1_init_5 (by decide) ?_
    refine i_put hc hw 0 rfl fX1_9 rfl rfl (Nat.le_of_ble_eq_true rfl) (ws' := [(b, .inr (1, [.int 0, .null, .null, .null, .null, .null, .null]))]) rfl dX1_init_6 (fun H locs hw => ?_)
    refine lv_aload_n hx hb dX1_init_9 rfl (lv_at hl 0 rfl) ?_
    refine lv_bipush (v := 12) hx hb dX1_init_10 (by decide) ?_
    refine i_newI hc hw (wI_all _ (List.mem_of_getElem? (i := 11) rfl)) (by decide) rfl (by decide) ⟨by decide, by decide⟩ dX1_init_12 (fun q1 H hw => ?_)
    have hw : iW κ A s [(b, .inr (1, [.int 0, .null, .null, .null, .null, .null, .null])), (q1, .inl (xcI κ, 12, .inl (fun _ => 0)))] H locs := hw
    refine i_putF hc hw 0 rfl fX1_15 (fun C T N h => by cases h; rfl) rfl rfl (Nat.le_of_ble_eq_true rfl) (ws' := [(b, .inr (1, [.int 0, .ref q1, .null, .null, .null, .null, .null])), (q1, .inl (xcI κ, 12, .inl (fun _ => 0)))]) rfl dX1_init_14 (fun H locs hw => ?_)
    refine lv_aload_n hx hb dX1_init_17 rfl (lv_at hl 0 rfl) ?_
    refine lv_bipush (v := 12) hx hb dX1_init_18 (by decide) ?_
    refine i_newI hc hw (wI_all _ (List.mem_of_getElem? (i := 11) rfl)) (by decide) rfl (by decide) ⟨by decide, by decide⟩ dX1_init_20 (fun q2 H hw => ?_)
    have hw : iW κ A s [(b, .inr (1, [.int 0, .ref q1, .null, .null, .null, .null, .null])), (q1, .inl (xcI κ, 12, .inl (fun _ => 0))), (q2, .inl (xcI κ, 12, .inl (fun _ => 0)))] H locs := hw
    refine i_putF hc hw 0 rfl fX1_19 (fun C T N h => by cases h; rfl) rfl rfl (Nat.le_of_ble_eq_true rfl) (ws' := [(b, .inr (1, [.int 0, .ref q1, .ref q2, .null, .null, .null, .null])), (q1, .inl (xcI κ, 12, .inl (fun _ => 0))), (q2, .inl (xcI κ, 12, .inl (fun _ => 0)))]) rfl dX1_init_22 (fun H locs hw => ?_)
    refine lv_aload_n hx hb dX1_init_25 rfl (lv_at hl 0 rfl) ?_
    refine lv_bipush (v := 12) hx hb dX1_init_26 (by decide) ?_
    refine i_newI hc hw (wI_all _ (List.mem_of_getElem? (i := 11) rfl)) (by decide) rfl (by decide) ⟨by decide, by decide⟩ dX1_init_28 (fun q3 H hw => ?_)
    have hw : iW κ A s [(b, .inr (1, [.int 0, .ref q1, .ref q2, .null, .null, .null, .null])), (q1, .inl (xcI κ, 12, .inl (fun _ => 0))), (q2, .inl (xcI κ, 12, .inl (fun _ => 0))), (q3, .inl (xcI κ, 12, .inl (fun _ => 0)))] H locs := hw
    refine i_putF hc hw 0 rfl fX1_22 (fun C T N h => by cases h; rfl) rfl rfl (Nat.le_of_ble_eq_true rfl) (ws' := [(b, .inr (1, [.int 0, .ref q1, .ref q2, .ref q3, .null, .null, .null])), (q1, .inl (xcI κ, 12, .inl (fun _ => 0))), (q2, .inl (xcI κ, 12, .inl (fun _ => 0))), (q3, .inl (xcI κ, 12, .inl (fun _ => 0)))]) rfl dX1_init_30 (fun H locs hw => ?_)
    refine lv_aload_n hx hb dX1_init_33 rfl (lv_at hl 0 rfl) ?_
    refine lv_bipush (v := 12) hx hb dX1_init_34 (by decide) ?_
    refine i_newI hc hw (wI_all _ (List.mem_of_getElem? (i := 11) rfl)) (by decide) rfl (by decide) ⟨by decide, by decide⟩ dX1_init_36 (fun q4 H hw => ?_)
    have hw : iW κ A s [(b, .inr (1, [.int 0, .ref q1, .ref q2, .ref q3, .null, .null, .null])), (q1, .inl (xcI κ, 12, .inl (fun _ => 0))), (q2, .inl (xcI κ, 12, .inl (fun _ => 0))), (q3, .inl (xcI κ, 12, .inl (fun _ => 0))), (q4, .inl (xcI κ, 12, .inl (fun _ => 0)))] H locs := hw
    refine i_putF hc hw 0 rfl fX1_25 (fun C T N h => by cases h; rfl) rfl rfl (Nat.le_of_ble_eq_true rfl) (ws' := [(b, .inr (1, [.int 0, .ref q1, .ref q2, .ref q3, .ref q4, .null, .null])), (q1, .inl (xcI κ, 12, .inl (fun _ => 0))), (q2, .inl (xcI κ, 12, .inl (fun _ => 0))), (q3, .inl (xcI κ, 12, .inl (fun _ => 0))), (q4, .inl (xcI κ, 12, .inl (fun _ => 0)))]) rfl dX1_init_38 (fun H locs hw => ?_)
    refine lv_aload_n hx hb dX1_init_41 rfl (lv_at hl 0 rfl) ?_
    refine lv_bipush (v := 12) hx hb dX1_init_42 (by decide) ?_
    refine i_newI hc hw (wI_all _ (List.mem_of_getElem? (i := 11) rfl)) (by decide) rfl (by decide) ⟨by decide, by decide⟩ dX1_init_44 (fun q5 H hw => ?_)
    have hw : iW κ A s [(b, .inr (1, [.int 0, .ref q1, .ref q2, .ref q3, .ref q4, .null, .null])), (q1, .inl (xcI κ, 12, .inl (fun _ => 0))), (q2, .inl (xcI κ, 12, .inl (fun _ => 0))), (q3, .inl (xcI κ, 12, .inl (fun _ => 0))), (q4, .inl (xcI κ, 12, .inl (fun _ => 0))), (q5, .inl (xcI κ, 12, .inl (fun _ => 0)))] H locs := hw
    refine i_putF hc hw 0 rfl fX1_28 (fun C T N h => by cases h; rfl) rfl rfl (Nat.le_of_ble_eq_true rfl) (ws' := [(b, .inr (1, [.int 0, .ref q1, .ref q2, .ref q3, .ref q4, .ref q5, .null])), (q1, .inl (xcI κ, 12, .inl (fun _ => 0))), (q2, .inl (xcI κ, 12, .inl (fun _ => 0))), (q3, .inl (xcI κ, 12, .inl (fun _ => 0))), (q4, .inl (xcI κ, 12, .inl (fun _ => 0))), (q5, .inl (xcI κ, 12, .inl (fun _ => 0)))]) rfl dX1_init_46 (fun H locs hw => ?_)
    refine lv_aload_n hx hb dX1_init_49 rfl (lv_at hl 0 rfl) ?_
    refine lv_bipush (v := 12) hx hb dX1_init_50 (by decide) ?_
    refine i_newI hc hw (wI_all _ (List.mem_of_getElem? (i := 11) rfl)) (by decide) rfl (by decide) ⟨by decide, by decide⟩ dX1_init_52 (fun q6 H hw => ?_)
    have hw : iW κ A s [(b, .inr (1, [.int 0, .ref q1, .ref q2, .ref q3, .ref q4, .ref q5, .null])), (q1, .inl (xcI κ, 12, .inl (fun _ => 0))), (q2, .inl (xcI κ, 12, .inl (fun _ => 0))), (q3, .inl (xcI κ, 12, .inl (fun _ => 0))), (q4, .inl (xcI κ, 12, .inl (fun _ => 0))), (q5, .inl (xcI κ, 12, .inl (fun _ => 0))), (q6, .inl (xcI κ, 12, .inl (fun _ => 0)))] H locs := hw
    refine i_putF hc hw 0 rfl fX1_31 (fun C T N h => by cases h; rfl) rfl rfl (Nat.le_of_ble_eq_true rfl) (ws' := [(b, .inr (1, [.int 0, .ref q1, .ref q2, .ref q3, .ref q4, .ref q5, .ref q6])), (q1, .inl (xcI κ, 12, .inl (fun _ => 0))), (q2, .inl (xcI κ, 12, .inl (fun _ => 0))), (q3, .inl (xcI κ, 12, .inl (fun _ => 0))), (q4, .inl (xcI κ, 12, .inl (fun _ => 0))), (q5, .inl (xcI κ, 12, .inl (fun _ => 0))), (q6, .inl (xcI κ, 12, .inl (fun _ => 0)))]) rfl dX1_init_54 (fun H locs hw => ?_)
    exact K 57 ls H locs (fun j => match j with | 0 => b | 1 => q1 | 2 => q2 | 3 => q3 | 4 => q4 | 5 => q5 | _ => q6) dX1_init_57 rfl hw
  exact go s.heap [] hw
def shX2 (κ : xKt) (g : Nat → Nat) (j : Nat) : va_E := match j with
  | 0 => .inr (2, [.int 0, .ref (g 1), .ref (g 2), .ref (g 3), .ref (g 4), .ref (g 5)])
  | 1 => .inl (xcI κ, 30, .inl (fun _ => 0))
  | 2 => .inl (xcI κ, 30, .inl (fun _ => 0))
  | 3 => .inl (xcJ κ, 30, .inr (.inl (fun _ => 0)))
  | 4 => .inl (xcJ κ, 30, .inr (.inl (fun _ => 0)))
  | _ => .inl (xcJ κ, 30, .inr (.inl (fun _ => 0)))
theorem iX2_init (l : Launch) (κ : xKt) : iM l κ yX2_init cX2_init 1 ({ frames := 1, cells := 5, slots := 150, locals := 40 }) 2 [.int 0, .null, .null, .null, .null, .null] 6 (shX2 κ) 5 150 := by
  refine iM_of pn_X2 rfl (by decide) ?_
  intro b A p e s m args below meth c ls Q hc hw hl K
  have hx := hc.1.1
  have hb := hc.1.2.1
  have go : ∀ (H : Heap) (locs : List Loc), iW κ A s [(b, .inr (2, [.int 0, .null, .null, .null, .null, .null]))] H locs → W p l e ({ frames := 1, cells := 5, slots := 150, locals := 40 }) s m args below meth c H locs 0 0 Q (F0 m 0 ls []) := by
    intro H locs hw
    refine lv_aload_n hx hb dX2_init_0 rfl (lv_at hl 0 rfl) ?_
    refine i_obj hc hl.1 (wI_all _ (List.mem_of_getElem? (i := 2) rfl)) (wI_all _ (List.mem_of_getElem? (i := 9) rfl)) (wI_all _ (List.mem_of_getElem? (i := 10) rfl)) ⟨by decide, by decide⟩ dX2_init_1 ?_
    refine lv_aload_n hx hb dX2_init_4 rfl (lv_at hl 0 rfl) ?_
    refine lv_iconst (v := 0) hx hb dX2_init_5 (by decide) ?_
    refine i_put hc hw 0 rfl fX2_9 rfl rfl (Nat.le_of_ble_eq_true rfl) (ws' := [(b, .inr (2, [.int 0, .null, .null, .null, .null, .null]))]) rfl dX2_init_6 (fun H locs hw => ?_)
    refine lv_aload_n hx hb dX2_init_9 rfl (lv_at hl 0 rfl) ?_
    refine lv_bipush (v := 30) hx hb dX2_init_10 (by decide) ?_
    refine i_newI hc hw (wI_all _ (List.mem_of_getElem? (i := 11) rfl)) (by decide) rfl (by decide) ⟨by decide, by decide⟩ dX2_init_12 (fun q1 H hw => ?_)
    have hw : iW κ A s [(b, .inr (2, [.int 0, .null, .null, .null, .null, .null])), (q1, .inl (xcI κ, 30, .inl (fun _ => 0)))] H locs := hw
    refine i_putF hc hw 0 rfl fX2_15 (fun C T N h => by cases h; rfl) rfl rfl (Nat.le_of_ble_eq_true rfl) (ws' := [(b, .inr (2, [.int 0, .ref q1, .null, .null, .null, .null])), (q1, .inl (xcI κ, 30, .inl (fun _ => 0)))]) rfl dX2_init_14 (fun H locs hw => ?_)
    refine lv_aload_n hx hb dX2_init_17 rfl (lv_at hl 0 rfl) ?_
    refine lv_bipush (v := 30) hx hb dX2_init_18 (by decide) ?_
    refine i_newI hc hw (wI_all _ (List.mem_of_getElem? (i := 11) rfl)) (by decide) rfl (by decide) ⟨by decide, by decide⟩ dX2_init_20 (fun q2 H hw => ?_)
    have hw : iW κ A s [(b, .inr (2, [.int 0, .ref q1, .null, .null, .null, .null])), (q1, .inl (xcI κ, 30, .inl (fun _ => 0))), (q2, .inl (xcI κ, 30, .inl (fun _ => 0)))] H locs := hw
    refine i_putF hc hw 0 rfl fX2_19 (fun C T N h => by cases h; rfl) rfl rfl (Nat.le_of_ble_eq_true rfl) (ws' := [(b, .inr (2, [.int 0, .ref q1, .ref q2, .null, .null, .null])), (q1, .inl (xcI κ, 30, .inl (fun _ => 0))), (q2, .inl (xcI κ, 30, .inl (fun _ => 0)))]) rfl dX2_init_22 (fun H locs hw => ?_)
    refine lv_aload_n hx hb dX2_init_25 rfl (lv_at hl 0 rfl) ?_
    refine lv_bipush (v := 30) hx hb dX2_init_26 (by decide) ?_
    refine i_newJ hc hw (wI_all _ (List.mem_of_getElem? (i := 12) rfl)) (by decide) rfl (by decide) ⟨by decide, by decide⟩ dX2_init_28 (fun q3 H hw => ?_)
    have hw : iW κ A s [(b, .inr (2, [.int 0, .ref q1, .ref q2, .null, .null, .null])), (q1, .inl (xcI κ, 30, .inl (fun _ => 0))), (q2, .inl (xcI κ, 30, .inl (fun _ => 0))), (q3, .inl (xcJ κ, 30, .inr (.inl (fun _ => 0))))] H locs := hw
    refine i_putF hc hw 0 rfl fX2_22 (fun C T N h => by cases h; rfl) rfl rfl (Nat.le_of_ble_eq_true rfl) (ws' := [(b, .inr (2, [.int 0, .ref q1, .ref q2, .ref q3, .null, .null])), (q1, .inl (xcI κ, 30, .inl (fun _ => 0))), (q2, .inl (xcI κ, 30, .inl (fun _ => 0))), (q3, .inl (xcJ κ, 30, .inr (.inl (fun _ => 0))))]) rfl dX2_init_30 (fun H locs hw => ?_)
    refine lv_aload_n hx hb dX2_init_33 rfl (lv_at hl 0 rfl) ?_
    refine lv_bipush (v := 30) hx hb dX2_init_34 (by decide) ?_
    refine i_newJ hc hw (wI_all _ (List.mem_of_getElem? (i := 12) rfl)) (by decide) rfl (by decide) ⟨by decide, by decide⟩ dX2_init_36 (fun q4 H hw => ?_)
    have hw : iW κ A s [(b, .inr (2, [.int 0, .ref q1, .ref q2, .ref q3, .null, .null])), (q1, .inl (xcI κ, 30, .inl (fun _ => 0))), (q2, .inl (xcI κ, 30, .inl (fun _ => 0))), (q3, .inl (xcJ κ, 30, .inr (.inl (fun _ => 0)))), (q4, .inl (xcJ κ, 30, .inr (.inl (fun _ => 0))))] H locs := hw
    refine i_putF hc hw 0 rfl fX2_26 (fun C T N h => by cases h; rfl) rfl rfl (Nat.le_of_ble_eq_true rfl) (ws' := [(b, .inr (2, [.int 0, .ref q1, .ref q2, .ref q3, .ref q4, .null])), (q1, .inl (xcI κ, 30, .inl (fun _ => 0))), (q2, .inl (xcI κ, 30, .inl (fun _ => 0))), (q3, .inl (xcJ κ, 30, .inr (.inl (fun _ => 0)))), (q4, .inl (xcJ κ, 30, .inr (.inl (fun _ => 0))))]) rfl dX2_init_38 (fun H locs hw => ?_)
    refine lv_aload_n hx hb dX2_init_41 rfl (lv_at hl 0 rfl) ?_
    refine lv_bipush (v := 30) hx hb dX2_init_42 (by decide) ?_
    refine i_newJ hc hw (wI_all _ (List.mem_of_getElem? (i := 12) rfl)) (by decide) rfl (by decide) ⟨by decide, by decide⟩ dX2_init_44 (fun q5 H hw => ?_)
    have hw : iW κ A s [(b, .inr (2, [.int 0, .ref q1, .ref q2, .ref q3, .ref q4, .null])), (q1, .inl (xcI κ, 30, .inl (fun _ => 0))), (q2, .inl (xcI κ, 30, .inl (fun _ => 0))), (q3, .inl (xcJ κ, 30, .inr (.inl (fun _ => 0)))), (q4, .inl (xcJ κ, 30, .inr (.inl (fun _ => 0)))), (q5, .inl (xcJ κ, 30, .inr (.inl (fun _ => 0))))] H locs := hw
    refine i_putF hc hw 0 rfl fX2_29 (fun C T N h => by cases h; rfl) rfl rfl (Nat.le_of_ble_eq_true rfl) (ws' := [(b, .inr (2, [.int 0, .ref q1, .ref q2, .ref q3, .ref q4, .ref q5])), (q1, .inl (xcI κ, 30, .inl (fun _ => 0))), (q2, .inl (xcI κ, 30, .inl (fun _ => 0))), (q3, .inl (xcJ κ, 30, .inr (.inl (fun _ => 0)))), (q4, .inl (xcJ κ, 30, .inr (.inl (fun _ => 0)))), (q5, .inl (xcJ κ, 30, .inr (.inl (fun _ => 0))))]) rfl dX2_init_46 (fun H locs hw => ?_)
    exact K 49 ls H locs (fun j => match j with | 0 => b | 1 => q1 | 2 => q2 | 3 => q3 | 4 => q4 | _ => q5) dX2_init_49 rfl hw
  exact go s.heap [] hw
def shX3 (κ : xKt) (g : Nat → Nat) (j : Nat) : va_E := match j with
  | 0 => .inr (3, [.int 0, .ref (g 1), .ref (g 2)])
  | 1 => .inl (xcI κ, 16, .inl (fun _ => 0))
  | _ => .inl (xcJ κ, 16, .inr (.inl (fun _ => 0)))
theorem iX3_init (l : Launch) (κ : xKt) : iM l κ yX3_init cX3_init 1 ({ frames := 1, cells := 2, slots := 32, locals := 40 }) 3 [.int 0, .null, .null] 3 (shX3 κ) 2 32 := by
  refine iM_of pn_X3 rfl (by decide) ?_
  intro b A p e s m args below meth c ls Q hc hw hl K
  have hx := hc.1.1
  have hb := hc.1.2.1
  have go : ∀ (H : Heap) (locs : List Loc), iW κ A s [(b, .inr (3, [.int 0, .null, .null]))] H locs → W p l e ({ frames := 1, cells := 2, slots := 32, locals := 40 }) s m args below meth c H locs 0 0 Q (F0 m 0 ls []) := by
    intro H locs hw
    refine lv_aload_n hx hb dX3_init_0 rfl (lv_at hl 0 rfl) ?_
    refine i_obj hc hl.1 (wI_all _ (List.mem_of_getElem? (i := 3) rfl)) (wI_all _ (List.mem_of_getElem? (i := 9) rfl)) (wI_all _ (List.mem_of_getElem? (i := 10) rfl)) ⟨by decide, by decide⟩ dX3_init_1 ?_
    refine lv_aload_n hx hb dX3_init_4 rfl (lv_at hl 0 rfl) ?_
    refine lv_iconst (v := 0) hx hb dX3_init_5 (by decide) ?_
    refine i_put hc hw 0 rfl fX3_9 rfl rfl (Nat.le_of_ble_eq_true rfl) (ws' := [(b, .inr (3, [.int 0, .null, .null]))]) rfl dX3_init_6 (fun H locs hw => ?_)
    refine lv_aload_n hx hb dX3_init_9 rfl (lv_at hl 0 rfl) ?_
    refine lv_bipush (v := 16) hx hb dX3_init_10 (by decide) ?_
    refine i_newI hc hw (wI_all _ (List.mem_of_getElem? (i := 11) rfl)) (by decide) rfl (by decide) ⟨by decide, by decide⟩ dX3_init_12 (fun q1 H hw => ?_)
    have hw : iW κ A s [(b, .inr (3, [.int 0, .null, .null])), (q1, .inl (xcI κ, 16, .inl (fun _ => 0)))] H locs := hw
    refine i_putF hc hw 0 rfl fX3_15 (fun C T N h => by cases h; rfl) rfl rfl (Nat.le_of_ble_eq_true rfl) (ws' := [(b, .inr (3, [.int 0, .ref q1, .null])), (q1, .inl (xcI κ, 16, .inl (fun _ => 0)))]) rfl dX3_init_14 (fun H locs hw => ?_)
    refine lv_aload_n hx hb dX3_init_17 rfl (lv_at hl 0 rfl) ?_
    refine lv_bipush (v := 16) hx hb dX3_init_18 (by decide) ?_
    refine i_newJ hc hw (wI_all _ (List.mem_of_getElem? (i := 12) rfl)) (by decide) rfl (by decide) ⟨by decide, by decide⟩ dX3_init_20 (fun q2 H hw => ?_)
    have hw : iW κ A s [(b, .inr (3, [.int 0, .ref q1, .null])), (q1, .inl (xcI κ, 16, .inl (fun _ => 0))), (q2, .inl (xcJ κ, 16, .inr (.inl (fun _ => 0))))] H locs := hw
    refine i_putF hc hw 0 rfl fX3_19 (fun C T N h => by cases h; rfl) rfl rfl (Nat.le_of_ble_eq_true rfl) (ws' := [(b, .inr (3, [.int 0, .ref q1, .ref q2])), (q1, .inl (xcI κ, 16, .inl (fun _ => 0))), (q2, .inl (xcJ κ, 16, .inr (.inl (fun _ => 0))))]) rfl dX3_init_22 (fun H locs hw => ?_)
    exact K 25 ls H locs (fun j => match j with | 0 => b | 1 => q1 | _ => q2) dX3_init_25 rfl hw
  exact go s.heap [] hw
def shX5 (κ : xKt) (g : Nat → Nat) (j : Nat) : va_E := match j with
  | 0 => .inr (5, [.int 0, .ref (g 1), .ref (g 2)])
  | 1 => .inl (xcI κ, 6, .inl (fun _ => 0))
  | _ => .inl (xcI κ, 6, .inl (fun _ => 0))
theorem iX5_init (l : Launch) (κ : xKt) : iM l κ yX5_init cX5_init 1 ({ frames := 1, cells := 2, slots := 12, locals := 40 }) 5 [.int 0, .null, .null] 3 (shX5 κ) 2 12 := by
  refine iM_of pn_X5 rfl (by decide) ?_
  intro b A p e s m args below meth c ls Q hc hw hl K
  have hx := hc.1.1
  have hb := hc.1.2.1
  have go : ∀ (H : Heap) (locs : List Loc), iW κ A s [(b, .inr (5, [.int 0, .null, .null]))] H locs → W p l e ({ frames := 1, cells := 2, slots := 12, locals := 40 }) s m args below meth c H locs 0 0 Q (F0 m 0 ls []) := by
    intro H locs hw
    refine lv_aload_n hx hb dX5_init_0 rfl (lv_at hl 0 rfl) ?_
    refine i_obj hc hl.1 (wI_all _ (List.mem_of_getElem? (i := 4) rfl)) (wI_all _ (List.mem_of_getElem? (i := 9) rfl)) (wI_all _ (List.mem_of_getElem? (i := 10) rfl)) ⟨by decide, by decide⟩ dX5_init_1 ?_
    refine lv_aload_n hx hb dX5_init_4 rfl (lv_at hl 0 rfl) ?_
    refine lv_iconst (v := 0) hx hb dX5_init_5 (by decide) ?_
    refine i_put hc hw 0 rfl fX5_9 rfl rfl (Nat.le_of_ble_eq_true rfl) (ws' := [(b, .inr (5, [.int 0, .null, .null]))]) rfl dX5_init_6 (fun H locs hw => ?_)
    refine lv_aload_n hx hb dX5_init_9 rfl (lv_at hl 0 rfl) ?_
    refine lv_bipush (v := 6) hx hb dX5_init_10 (by decide) ?_
    refine i_newI hc hw (wI_all _ (List.mem_of_getElem? (i := 11) rfl)) (by decide) rfl (by decide) ⟨by decide, by decide⟩ dX5_init_12 (fun q1 H hw => ?_)
    have hw : iW κ A s [(b, .inr (5, [.int 0, .null, .null])), (q1, .inl (xcI κ, 6, .inl (fun _ => 0)))] H locs := hw
    refine i_putF hc hw 0 rfl fX5_15 (fun C T N h => by cases h; rfl) rfl rfl (Nat.le_of_ble_eq_true rfl) (ws' := [(b, .inr (5, [.int 0, .ref q1, .null])), (q1, .inl (xcI κ, 6, .inl (fun _ => 0)))]) rfl dX5_init_14 (fun H locs hw => ?_)
    refine lv_aload_n hx hb dX5_init_17 rfl (lv_at hl 0 rfl) ?_
    refine lv_bipush (v := 6) hx hb dX5_init_18 (by decide) ?_
    refine i_newI hc hw (wI_all _ (List.mem_of_getElem? (i := 11) rfl)) (by decide) rfl (by decide) ⟨by decide, by decide⟩ dX5_init_20 (fun q2 H hw => ?_)
    have hw : iW κ A s [(b, .inr (5, [.int 0, .ref q1, .null])), (q1, .inl (xcI κ, 6, .inl (fun _ => 0))), (q2, .inl (xcI κ, 6, .inl (fun _ => 0)))] H locs := hw
    refine i_putF hc hw 0 rfl fX5_19 (fun C T N h => by cases h; rfl) rfl rfl (Nat.le_of_ble_eq_true rfl) (ws' := [(b, .inr (5, [.int 0, .ref q1, .ref q2])), (q1, .inl (xcI κ, 6, .inl (fun _ => 0))), (q2, .inl (xcI κ, 6, .inl (fun _ => 0)))]) rfl dX5_init_22 (fun H locs hw => ?_)
    exact K 25 ls H locs (fun j => match j with | 0 => b | 1 => q1 | _ => q2) dX5_init_25 rfl hw
  exact go s.heap [] hw
def shX6 (κ : xKt) (g : Nat → Nat) (j : Nat) : va_E := match j with
  | 0 => .inr (6, [.int 0, .ref (g 1), .int 0, .int 1, .int 0, .ref (g 2), .ref (g 3), .ref (g 4), .ref (g 5)])
  | 1 => .inl (xcC κ, 70, .inl (fun _ => 0))
  | 2 => .inl (xcI κ, 35, .inl (fun _ => 0))
  | 3 => .inl (xcI κ, 35, .inl (fun _ => 0))
  | 4 => .inl (xcI κ, 35, .inl (fun _ => 0))
  | _ => .inl (xcI κ, 35, .inl (fun _ => 0))
theorem iX6_init (l : Launch) (κ : xKt) : iM l κ yX6_init cX6_init 1 ({ frames := 1, cells := 5, slots := 210, locals := 40 }) 6 [.int 0, .null, .int 0, .int 0, .int 0, .null, .null, .null, .null] 6 (shX6 κ) 5 210 := by
  refine iM_of pn_X6 rfl (by decide) ?_
  intro b A p e s m args below meth c ls Q hc hw hl K
  have hx := hc.1.1
  have hb := hc.1.2.1
  have go : ∀ (H : Heap) (locs : List Loc), iW κ A s [(b, .inr (6, [.int 0, .null, .int 0, .int 0, .int 0, .null, .null, .null, .null]))] H locs → W p l e ({ frames := 1, cells := 5, slots := 210, locals := 40 }) s m args below meth c H locs 0 0 Q (F0 m 0 ls []) := by
    intro H locs hw
    refine lv_aload_n hx hb dX6_init_0 rfl (lv_at hl 0 rfl) ?_
    refine i_obj hc hl.1 (wI_all _ (List.mem_of_getElem? (i := 5) rfl)) (wI_all _ (List.mem_of_getElem? (i := 9) rfl)) (wI_all _ (List.mem_of_getElem? (i := 10) rfl)) ⟨by decide, by decide⟩ dX6_init_1 ?_
    refine lv_aload_n hx hb dX6_init_4 rfl (lv_at hl 0 rfl) ?_
    refine lv_iconst (v := 0) hx hb dX6_init_5 (by decide) ?_
    refine i_put hc hw 0 rfl fX6_9 rfl rfl (Nat.le_of_ble_eq_true rfl) (ws' := [(b, .inr (6, [.int 0, .null, .int 0, .int 0, .int 0, .null, .null, .null, .null]))]) rfl dX6_init_6 (fun H locs hw => ?_)
    refine lv_aload_n hx hb dX6_init_9 rfl (lv_at hl 0 rfl) ?_
    refine lv_bipush (v := 70) hx hb dX6_init_10 (by decide) ?_
    refine i_newC hc hw (wI_all _ (List.mem_of_getElem? (i := 13) rfl)) (by decide) rfl (by decide) ⟨by decide, by decide⟩ dX6_init_12 (fun q1 H hw => ?_)
    have hw : iW κ A s [(b, .inr (6, [.int 0, .null, .int 0, .int 0, .int 0, .null, .null, .null, .null])), (q1, .inl (xcC κ, 70, .inl (fun _ => 0)))] H locs := hw
    refine i_putF hc hw 0 rfl fX6_15 (fun C T N h => by cases h; rfl) rfl rfl (Nat.le_of_ble_eq_true rfl) (ws' := [(b, .inr (6, [.int 0, .ref q1, .int 0, .int 0, .int 0, .null, .null, .null, .null])), (q1, .inl (xcC κ, 70, .inl (fun _ => 0)))]) rfl dX6_init_14 (fun H locs hw => ?_)
    refine lv_aload_n hx hb dX6_init_17 rfl (lv_at hl 0 rfl) ?_
    refine lv_iconst (v := 0) hx hb dX6_init_18 (by decide) ?_
    refine i_put hc hw 0 rfl fX6_19 rfl rfl (Nat.le_of_ble_eq_true rfl) (ws' := [(b, .inr (6, [.int 0, .ref q1, .int 0, .int 0, .int 0, .null, .null, .null, .null])), (q1, .inl (xcC κ, 70, .inl (fun _ => 0)))]) rfl dX6_init_19 (fun H locs hw => ?_)
    refine lv_aload_n hx hb dX6_init_22 rfl (lv_at hl 0 rfl) ?_
    refine lv_iconst (v := 1) hx hb dX6_init_23 (by decide) ?_
    refine i_put hc hw 0 rfl fX6_22 rfl rfl (Nat.le_of_ble_eq_true rfl) (ws' := [(b, .inr (6, [.int 0, .ref q1, .int 0, .int 1, .int 0, .null, .null, .null, .null])), (q1, .inl (xcC κ, 70, .inl (fun _ => 0)))]) rfl dX6_init_24 (fun H locs hw => ?_)
    refine lv_aload_n hx hb dX6_init_27 rfl (lv_at hl 0 rfl) ?_
    refine lv_iconst (v := 0) hx hb dX6_init_28 (by decide) ?_
    refine i_put hc hw 0 rfl fX6_26 rfl rfl (Nat.le_of_ble_eq_true rfl) (ws' := [(b, .inr (6, [.int 0, .ref q1, .int 0, .int 1, .int 0, .null, .null, .null, .null])), (q1, .inl (xcC κ, 70, .inl (fun _ => 0)))]) rfl dX6_init_29 (fun H locs hw => ?_)
    refine lv_aload_n hx hb dX6_init_32 rfl (lv_at hl 0 rfl) ?_
    refine lv_bipush (v := 35) hx hb dX6_init_33 (by decide) ?_
    refine i_newI hc hw (wI_all _ (List.mem_of_getElem? (i := 11) rfl)) (by decide) rfl (by decide) ⟨by decide, by decide⟩ dX6_init_35 (fun q2 H hw => ?_)
    have hw : iW κ A s [(b, .inr (6, [.int 0, .ref q1, .int 0, .int 1, .int 0, .null, .null, .null, .null])), (q1, .inl (xcC κ, 70, .inl (fun _ => 0))), (q2, .inl (xcI κ, 35, .inl (fun _ => 0)))] H locs := hw
    refine i_putF hc hw 0 rfl fX6_29 (fun C T N h => by cases h; rfl) rfl rfl (Nat.le_of_ble_eq_true rfl) (ws' := [(b, .inr (6, [.int 0, .ref q1, .int 0, .int 1, .int 0, .ref q2, .null, .null, .null])), (q1, .inl (xcC κ, 70, .inl (fun _ => 0))), (q2, .inl (xcI κ, 35, .inl (fun _ => 0)))]) rfl dX6_init_37 (fun H locs hw => ?_)
    refine lv_aload_n hx hb dX6_init_40 rfl (lv_at hl 0 rfl) ?_
    refine lv_bipush (v := 35) hx hb dX6_init_41 (by decide) ?_
    refine i_newI hc hw (wI_all _ (List.mem_of_getElem? (i := 11) rfl)) (by decide) rfl (by decide) ⟨by decide, by decide⟩ dX6_init_43 (fun q3 H hw => ?_)
    have hw : iW κ A s [(b, .inr (6, [.int 0, .ref q1, .int 0, .int 1, .int 0, .ref q2, .null, .null, .null])), (q1, .inl (xcC κ, 70, .inl (fun _ => 0))), (q2, .inl (xcI κ, 35, .inl (fun _ => 0))), (q3, .inl (xcI κ, 35, .inl (fun _ => 0)))] H locs := hw
    refine i_putF hc hw 0 rfl fX6_33 (fun C T N h => by cases h; rfl) rfl rfl (Nat.le_of_ble_eq_true rfl) (ws' := [(b, .inr (6, [.int 0, .ref q1, .int 0, .int 1, .int 0, .ref q2, .ref q3, .null, .null])), (q1, .inl (xcC κ, 70, .inl (fun _ => 0))), (q2, .inl (xcI κ, 35, .inl (fun _ => 0))), (q3, .inl (xcI κ, 35, .inl (fun _ => 0)))]) rfl dX6_init_45 (fun H locs hw => ?_)
    refine lv_aload_n hx hb dX6_init_48 rfl (lv_at hl 0 rfl) ?_
    refine lv_bipush (v := 35) hx hb dX6_init_49 (by decide) ?_
    refine i_newI hc hw (wI_all _ (List.mem_of_getElem? (i := 11) rfl)) (by decide) rfl (by decide) ⟨by decide, by decide⟩ dX6_init_51 (fun q4 H hw => ?_)
    have hw : iW κ A s [(b, .inr (6, [.int 0, .ref q1, .int 0, .int 1, .int 0, .ref q2, .ref q3, .null, .null])), (q1, .inl (xcC κ, 70, .inl (fun _ => 0))), (q2, .inl (xcI κ, 35, .inl (fun _ => 0))), (q3, .inl (xcI κ, 35, .inl (fun _ => 0))), (q4, .inl (xcI κ, 35, .inl (fun _ => 0)))] H locs := hw
    refine i_putF hc hw 0 rfl fX6_36 (fun C T N h => by cases h; rfl) rfl rfl (Nat.le_of_ble_eq_true rfl) (ws' := [(b, .inr (6, [.int 0, .ref q1, .int 0, .int 1, .int 0, .ref q2, .ref q3, .ref q4, .null])), (q1, .inl (xcC κ, 70, .inl (fun _ => 0))), (q2, .inl (xcI κ, 35, .inl (fun _ => 0))), (q3, .inl (xcI κ, 35, .inl (fun _ => 0))), (q4, .inl (xcI κ, 35, .inl (fun _ => 0)))]) rfl dX6_init_53 (fun H locs hw => ?_)
    refine lv_aload_n hx hb dX6_init_56 rfl (lv_at hl 0 rfl) ?_
    refine lv_bipush (v := 35) hx hb dX6_init_57 (by decide) ?_
    refine i_newI hc hw (wI_all _ (List.mem_of_getElem? (i := 11) rfl)) (by decide) rfl (by decide) ⟨by decide, by decide⟩ dX6_init_59 (fun q5 H hw => ?_)
    have hw : iW κ A s [(b, .inr (6, [.int 0, .ref q1, .int 0, .int 1, .int 0, .ref q2, .ref q3, .ref q4, .null])), (q1, .inl (xcC κ, 70, .inl (fun _ => 0))), (q2, .inl (xcI κ, 35, .inl (fun _ => 0))), (q3, .inl (xcI κ, 35, .inl (fun _ => 0))), (q4, .inl (xcI κ, 35, .inl (fun _ => 0))), (q5, .inl (xcI κ, 35, .inl (fun _ => 0)))] H locs := hw
    refine i_putF hc hw 0 rfl fX6_39 (fun C T N h => by cases h; rfl) rfl rfl (Nat.le_of_ble_eq_true rfl) (ws' := [(b, .inr (6, [.int 0, .ref q1, .int 0, .int 1, .int 0, .ref q2, .ref q3, .ref q4, .ref q5])), (q1, .inl (xcC κ, 70, .inl (fun _ => 0))), (q2, .inl (xcI κ, 35, .inl (fun _ => 0))), (q3, .inl (xcI κ, 35, .inl (fun _ => 0))), (q4, .inl (xcI κ, 35, .inl (fun _ => 0))), (q5, .inl (xcI κ, 35, .inl (fun _ => 0)))]) rfl dX6_init_61 (fun H locs hw => ?_)
    exact K 64 ls H locs (fun j => match j with | 0 => b | 1 => q1 | 2 => q2 | 3 => q3 | 4 => q4 | _ => q5) dX6_init_64 rfl hw
  exact go s.heap [] hw
