-- the class made
theorem wI_ao : ∀ w ∈ ([.classLink RX7 7 "ArbitrationFees$Accounts"] : List Cond), w ∈ gW := xin_ws (by decide +kernel)
theorem i_mid {α : Type} (L M : List α) (x y : α) {k : Nat} (h : L.length = k) : ((L ++ [x]) ++ M).set k y = (L ++ [y]) ++ M ∧ ((L ++ [x]) ++ M)[k]? = some x := by
  subst h
  constructor
  · rw [List.append_assoc, List.set_append_right _ _ (Nat.le_refl _), Nat.sub_self]
    simp
  · rw [List.append_assoc, List.getElem?_append_right (Nat.le_refl _), Nat.sub_self]
    rfl
section IAQ
variable {κ : xKt} {A : Nat → Prop} {p : Program} {l : Launch} {e : Env} {R : Room} {s : State} {m : MethodId} {args : Array Value} {below : List Frame} {meth : Method} {c : Code} {H : Heap} {locs : List Loc} {cells slots : Nat} {Q : State → Prop}
variable {cc : ByteArray} {own : String} {nL : Nat} {pc : Nat} {ls : Array Slot} {rest : List Value} {ws : va_W}
theorem i_aast (hc : iC κ A p s m args meth c cc own nL) {L M : va_W} {a n : Nat} {f : Nat → Option Nat} {g : Nat → Nat} (hw : iW κ A s (((L ++ [(a, .inl (xcA κ, n, .inr (.inr (.inr (.inr f)))))]) ++ M) ++ iWs 26 (shX0 κ) g) H locs) {k : Nat} (hL : L.length = k) {i : Int32} {j : Nat} (hj : i.toNatClampNeg = j) (hin : xin i n = true) (hdg : decode cc pc = .ok (.aastore, 1))
    (kk : ∀ (H : Heap) (locs : List Loc), iW κ A s ((L ++ [(a, .inl (xcA κ, n, .inr (.inr (.inr (.inr (va_up f j (some (g 0))))))))]) ++ (M ++ iWs 26 (shX0 κ) g)) H locs → W p l e R s m args below meth c H locs cells slots Q (F0 m (pc + 1) ls rest)) : W p l e R s m args below meth c H locs cells slots Q (F0 m pc ls (.ref (g 0) :: .int i :: .ref a :: rest)) := by
  obtain ⟨⟨hx, hb, hml, hown, hts⟩, -, -, -, hK, hA, -⟩ := hc
  subst hj
  have hv : (((L ++ [(a, (.inl (xcA κ, n, .inr (.inr (.inr (.inr f)))) : va_E))]) ++ M) ++ iWs 26 (shX0 κ) g)[((L ++ [(a, (.inl (xcA κ, n, .inr (.inr (.inr (.inr f)))) : va_E))]) ++ M).length]? = some (g 0, shX0 κ g 0) := by
    rw [List.getElem?_append_right (Nat.le_refl _), Nat.sub_self]
    rfl
  rw [List.append_assoc (L ++ _) M _] at hw hv
  refine va_astq hx hb hK hw.1 hw.2.1 hw.2.2 k 4 _ 0 (i_mid L _ _ (a, .inl (xcA κ, n, .inr (.inr (.inr (.inr f))))) hL).2 rfl hv rfl (xin_vp hin) hdg (fun H1 locs1 a1 a2 a3 => ?_)
  rw [(i_mid L _ _ _ hL).1] at a1 a2
  exact kk H1 locs1 ⟨a1, a2, a3⟩
theorem i_newq (hc : iC κ A p s m args meth c cc own nL) (hw : iW κ A s ws H locs) {idx : Nat} (hcl : Cond.classLink own idx "ArbitrationFees$Accounts" ∈ gW) {n : Int32} {N : Nat} (hn : ¬ n < 0) (hN : n.toNatClampNeg = N) (hby : N * 4 ≤ 536870912) (hz : cells + 1 ≤ R.cells ∧ slots + N ≤ R.slots) (hdg : decode cc pc = .ok (.anewarray idx, 3))
    (kk : ∀ (q : Nat) (H : Heap), iW κ A s (ws ++ [(q, .inl (xcA κ, N, .inr (.inr (.inr (.inr (fun _ => none))))))]) H locs → W p l e R s m args below meth c H locs (cells + 1) (slots + N) Q (F0 m (pc + 3) ls (.ref q :: rest))) : W p l e R s m args below meth c H locs cells slots Q (F0 m pc ls (.int n :: rest)) := by
  obtain ⟨⟨hx, hb, hml, hown, hts⟩, -, -, -, hK, hA, hEn⟩ := hc
  refine va_newq hx hb hown (hts _ hcl) hEn.1.2.1 hK hw.1 hw.2.1 hw.2.2 hA (N' := N) hn hN hby hz.1 hz.2 hdg (fun q cA H1 k1 k2 k3 k4 => ?_)
  obtain ⟨-, -, -, -, -, e1⟩ := (k1.2 5 (cA, .object "ArbitrationFees$Accounts") rfl).2
  obtain ⟨-, -, -, -, -, e2⟩ := (hK.2 4 (xcA κ, .object "ArbitrationFees$Accounts") rfl).2
  obtain rfl : cA = xcA κ := Option.some.inj (e1.symm.trans e2)
  exact kk q H1 ⟨k2, k3, k4⟩
theorem i_get (hc : iC κ A p s m args meth c cc own nL) (hw : iW κ A s ws H locs) (q0 : Nat) {a ci k index : Nat} {fs : List Value} {ty : FieldType} {fin : Bool} (he : ws[q0]? = some (a, .inr (ci, fs))) (hF : xFl own index ci k ty fin) {v : Value} (hv : fs[k]? = some v) (hdg : decode cc pc = .ok (.getfield index, 3))
    (kk : W p l e R s m args below meth c H locs cells slots Q (F0 m (pc + 3) ls (v :: rest))) : W p l e R s m args below meth c H locs cells slots Q (F0 m pc ls (.ref a :: rest)) := by
  obtain ⟨C, T, N, ty0, h1, h2, h3, h4, h5, -⟩ := hF
  obtain ⟨⟨hx, hb, hml, hown, hts⟩, -, -, -, hK, -⟩ := hc
  exact va_get hx hb hts h2 hown hK hw.1 q0 he h1 k h3 (hts _ h4) (by rw [h5]; exact fun _ h => h) hv hdg kk
end IAQ
def shX7 (κ : xKt) (g : Nat → Nat) (j : Nat) : va_E := if j = 0 then .inr (7, [.ref (g 1), .ref (g 27), .ref (g 53), .ref (g 54), .ref (g 60), .int 0, .int 0, .int 0, .int (-1), .int (-1)]) else if j < 27 then shX0 κ (fun i => g (1 + i)) (j - 1) else if j < 53 then shX0 κ (fun i => g (27 + i)) (j - 27) else if j = 53 then .inl (xcA κ, 7, .inr (.inr (.inr (.inr (va_up (va_up (va_up (va_up (va_up (va_up (va_up (fun _ => none) 0 (some (g 63))) 1 (some (g 89))) 2 (some (g 115))) 3 (some (g 141))) 4 (some (g 167))) 5 (some (g 193))) 6 (some (g 219))))))) else if j < 60 then shX6 κ (fun i => g (54 + i)) (j - 54) else if j < 63 then shX5 κ (fun i => g (60 + i)) (j - 60) else shX0 κ (fun i => g (63 + 26 * ((j - 63) / 26) + i)) ((j - 63) % 26)
set_option maxHeartbeats 8000000 in
set_option maxRecDepth 100000 in
theorem iX7_init (l : Launch) (κ : xKt) : iM l κ yX7_init cX7_init 2 ({ frames := 3, cells := 244, slots := 3202, locals := 120 }) 7 [.null, .null, .null, .null, .null, .int 0, .int 0, .int 0, .int 0, .int 0] 245 (shX7 κ) 244 3202 := by
  refine iM_of pn_X7 rfl (by decide) ?_
  intro b A p e s m args below meth c ls Q hc hw hl K
  have hx := hc.1.1
  have hb := hc.1.2.1
  have go : ∀ (H : Heap) (locs : List Loc), iW κ A s [(b, .inr (7, [.null, .null, .null, .null, .null, .int 0, .int 0, .int 0, .int 0, .int 0]))] H locs → W p l e ({ frames := 3, cells := 244, slots := 3202, locals := 120 }) s m args below meth c H locs 0 0 Q (F0 m 0 ls []) := by
    intro H locs hw
    refine lv_aload_n hx hb dX7_init_0 rfl (lv_at hl 0 rfl) ?_
    refine i_obj hc hl.1 (wI_all _ (List.mem_of_getElem? (i := 6) rfl)) (wI_all _ (List.mem_of_getElem? (i := 9) rfl)) (wI_all _ (List.mem_of_getElem? (i := 10) rfl)) ⟨by decide, by decide⟩ dX7_init_1 ?_
    refine lv_aload_n hx hb dX7_init_4 rfl (lv_at hl 0 rfl) ?_
    refine i_mk hc.1 hc.2.2.2.2.1 hc.2.2.2.2.2.1 hc.2.2.2.2.2.2 hw hl.1 kRX7_9 (iX0_init l κ) (.inl nRX7_9) ⟨rfl, rfl⟩ ⟨by decide, by decide⟩ ⟨by decide, by decide⟩ (Nat.le_of_ble_eq_true rfl) dX7_init_5 dX7_init_8 dX7_init_9 (fun ga0 H locs hw => ?_)
    refine i_putF hc hw 0 rfl fX7_10 (fun C T N h => by cases h; rfl) rfl rfl (Nat.le_of_ble_eq_true rfl) (ws' := [(b, .inr (7, [.ref (ga0 0), .null, .null, .null, .null, .int 0, .int 0, .int 0, .int 0, .int 0]))] ++ iWs 26 (shX0 κ) ga0) rfl dX7_init_12 (fun H locs hw => ?_)
    refine lv_aload_n hx hb dX7_init_15 rfl (lv_at hl 0 rfl) ?_
    refine i_mk hc.1 hc.2.2.2.2.1 hc.2.2.2.2.2.1 hc.2.2.2.2.2.2 hw hl.1 kRX7_9 (iX0_init l κ) (.inl nRX7_9) ⟨rfl, rfl⟩ ⟨by decide, by decide⟩ ⟨by decide, by decide⟩ (Nat.le_of_ble_eq_true rfl) dX7_init_16 dX7_init_19 dX7_init_20 (fun ga1 H locs hw => ?_)
    refine i_putF hc hw 0 rfl fX7_16 (fun C T N h => by cases h; rfl) rfl rfl (Nat.le_of_ble_eq_true rfl) (ws' := [(b, .inr (7, [.ref (ga0 0), .ref (ga1 0), .null, .null, .null, .int 0, .int 0, .int 0, .int 0, .int 0]))] ++ iWs 26 (shX0 κ) ga0 ++ iWs 26 (shX0 κ) ga1) rfl dX7_init_23 (fun H locs hw => ?_)
    refine lv_aload_n hx hb dX7_init_26 rfl (lv_at hl 0 rfl) ?_
    refine lv_bipush (v := 7) hx hb dX7_init_27 (by decide) ?_
    refine i_newq hc hw (wI_ao _ (List.mem_of_getElem? (i := 0) rfl)) (by decide) rfl (by decide) ⟨by decide, by decide⟩ dX7_init_29 (fun qr H hw => ?_)
    have hw : iW κ A s ([(b, .inr (7, [.ref (ga0 0), .ref (ga1 0), .null, .null, .null, .int 0, .int 0, .int 0, .int 0, .int 0]))] ++ iWs 26 (shX0 κ) ga0 ++ iWs 26 (shX0 κ) ga1 ++ [(qr, .inl (xcA κ, 7, .inr (.inr (.inr (.inr (fun _ => none))))))]) H locs := hw
    refine i_putF hc hw 0 rfl fX7_19 (fun C T N h => by cases h; rfl) rfl rfl (Nat.le_of_ble_eq_true rfl) (ws' := [(b, .inr (7, [.ref (ga0 0), .ref (ga1 0), .ref qr, .null, .null, .int 0, .int 0, .int 0, .int 0, .int 0]))] ++ iWs 26 (shX0 κ) ga0 ++ iWs 26 (shX0 κ) ga1 ++ [(qr, .inl (xcA κ, 7, .inr (.inr (.inr (.inr (fun _ => none))))))]) rfl dX7_init_32 (fun H locs hw => ?_)
    refine lv_aload_n hx hb dX7_init_35 rfl (lv_at hl 0 rfl) ?_
    refine i_mk hc.1 hc.2.2.2.2.1 hc.2.2.2.2.2.1 hc.2.2.2.2.2.2 hw hl.1 kRX7_25 (iX6_init l κ) (.inl nRX7_25) ⟨rfl, rfl⟩ ⟨by decide, by decide⟩ ⟨by decide, by decide⟩ (Nat.le_of_ble_eq_true rfl) dX7_init_36 dX7_init_39 dX7_init_40 (fun gt H locs hw => ?_)
    refine i_putF hc hw 0 rfl fX7_26 (fun C T N h => by cases h; rfl) rfl rfl (Nat.le_of_ble_eq_true rfl) (ws' := [(b, .inr (7, [.ref (ga0 0), .ref (ga1 0), .ref qr, .ref (gt 0), .null, .int 0, .int 0, .int 0, .int 0, .int 0]))] ++ iWs 26 (shX0 κ) ga0 ++ iWs 26 (shX0 κ) ga1 ++ [(qr, .inl (xcA κ, 7, .inr (.inr (.inr (.inr (fun _ => none))))))] ++ iWs 6 (shX6 κ) gt) rfl dX7_init_43 (fun H locs hw => ?_)
    refine lv_aload_n hx hb dX7_init_46 rfl (lv_at hl 0 rfl) ?_
    refine i_mk hc.1 hc.2.2.2.2.1 hc.2.2.2.2.2.1 hc.2.2.2.2.2.2 hw hl.1 kRX7_32 (iX5_init l κ) (.inl nRX7_32) ⟨rfl, rfl⟩ ⟨by decide, by decide⟩ ⟨by decide, by decide⟩ (Nat.le_of_ble_eq_true rfl) dX7_init_47 dX7_init_50 dX7_init_51 (fun gr H locs hw => ?_)
    refine i_putF hc hw 0 rfl fX7_33 (fun C T N h => by cases h; rfl) rfl rfl (Nat.le_of_ble_eq_true rfl) (ws' := [(b, .inr (7, [.ref (ga0 0), .ref (ga1 0), .ref qr, .ref (gt 0), .ref (gr 0), .int 0, .int 0, .int 0, .int 0, .int 0]))] ++ iWs 26 (shX0 κ) ga0 ++ iWs 26 (shX0 κ) ga1 ++ [(qr, .inl (xcA κ, 7, .inr (.inr (.inr (.inr (fun _ => none))))))] ++ iWs 6 (shX6 κ) gt ++ iWs 3 (shX5 κ) gr) rfl dX7_init_54 (fun H locs hw => ?_)
    refine lv_aload_n hx hb dX7_init_57 rfl (lv_at hl 0 rfl) ?_
    refine lv_iconst (v := 0) hx hb dX7_init_58 (by decide) ?_
    refine i_put hc hw 0 rfl fX7_37 rfl rfl (Nat.le_of_ble_eq_true rfl) (ws' := [(b, .inr (7, [.ref (ga0 0), .ref (ga1 0), .ref qr, .ref (gt 0), .ref (gr 0), .int 0, .int 0, .int 0, .int 0, .int 0]))] ++ iWs 26 (shX0 κ) ga0 ++ iWs 26 (shX0 κ) ga1 ++ [(qr, .inl (xcA κ, 7, .inr (.inr (.inr (.inr (fun _ => none))))))] ++ iWs 6 (shX6 κ) gt ++ iWs 3 (shX5 κ) gr) rfl dX7_init_59 (fun H locs hw => ?_)
    refine lv_aload_n hx hb dX7_init_62 rfl (lv_at hl 0 rfl) ?_
    refine lv_iconst (v := 0) hx hb dX7_init_63 (by decide) ?_
    refine i_put hc hw 0 rfl fX7_41 rfl rfl (Nat.le_of_ble_eq_true rfl) (ws' := [(b, .inr (7, [.ref (ga0 0), .ref (ga1 0), .ref qr, .ref (gt 0), .ref (gr 0), .int 0, .int 0, .int 0, .int 0, .int 0]))] ++ iWs 26 (shX0 κ) ga0 ++ iWs 26 (shX0 κ) ga1 ++ [(qr, .inl (xcA κ, 7, .inr (.inr (.inr (.inr (fun _ => none))))))] ++ iWs 6 (shX6 κ) gt ++ iWs 3 (shX5 κ) gr) rfl dX7_init_64 (fun H locs hw => ?_)
    refine lv_aload_n hx hb dX7_init_67 rfl (lv_at hl 0 rfl) ?_
    refine lv_iconst (v := 0) hx hb dX7_init_68 (by decide) ?_
    refine i_put hc hw 0 rfl fX7_45 rfl rfl (Nat.le_of_ble_eq_true rfl) (ws' := [(b, .inr (7, [.ref (ga0 0), .ref (ga1 0), .ref qr, .ref (gt 0), .ref (gr 0), .int 0, .int 0, .int 0, .int 0, .int 0]))] ++ iWs 26 (shX0 κ) ga0 ++ iWs 26 (shX0 κ) ga1 ++ [(qr, .inl (xcA κ, 7, .inr (.inr (.inr (.inr (fun _ => none))))))] ++ iWs 6 (shX6 κ) gt ++ iWs 3 (shX5 κ) gr) rfl dX7_init_69 (fun H locs hw => ?_)
    refine lv_aload_n hx hb dX7_init_72 rfl (lv_at hl 0 rfl) ?_
    refine lv_iconst (v := (-1)) hx hb dX7_init_73 (by decide) ?_
    refine i_put hc hw 0 rfl fX7_48 rfl rfl (Nat.le_of_ble_eq_true rfl) (ws' := [(b, .inr (7, [.ref (ga0 0), .ref (ga1 0), .ref qr, .ref (gt 0), .ref (gr 0), .int 0, .int 0, .int 0, .int (-1), .int 0]))] ++ iWs 26 (shX0 κ) ga0 ++ iWs 26 (shX0 κ) ga1 ++ [(qr, .inl (xcA κ, 7, .inr (.inr (.inr (.inr (fun _ => none))))))] ++ iWs 6 (shX6 κ) gt ++ iWs 3 (shX5 κ) gr) rfl dX7_init_74 (fun H locs hw => ?_)
    refine lv_aload_n hx hb dX7_init_77 rfl (lv_at hl 0 rfl) ?_
    refine lv_iconst (v := (-1)) hx hb dX7_init_78 (by decide) ?_
    refine i_put hc hw 0 rfl fX7_51 rfl rfl (Nat.le_of_ble_eq_true rfl) (ws' := [(b, .inr (7, [.ref (ga0 0), .ref (ga1 0), .ref qr, .ref (gt 0), .ref (gr 0), .int 0, .int 0, .int 0, .int (-1), .int (-1)]))] ++ iWs 26 (shX0 κ) ga0 ++ iWs 26 (shX0 κ) ga1 ++ [(qr, .inl (xcA κ, 7, .inr (.inr (.inr (.inr (fun _ => none))))))] ++ iWs 6 (shX6 κ) gt ++ iWs 3 (shX5 κ) gr) rfl dX7_init_79 (fun H locs hw => ?_)
    refine lv_iconst (v := 0) hx hb dX7_init_82 (by decide) ?_
    refine lv_istore_n (lv' := [(1, .int 0), (0, .ref b)]) hx hb dX7_init_83 rfl hl (by decide) rfl (fun ls hl => ?_)
    have hw : iW κ A s ((([(b, .inr (7, [.ref (ga0 0), .ref (ga1 0), .ref qr, .ref (gt 0), .ref (gr 0), .int 0, .int 0, .int 0, .int (-1), .int (-1)]))] ++ iWs 26 (shX0 κ) ga0 ++ iWs 26 (shX0 κ) ga1) ++ [(qr, .inl (xcA κ, 7, .inr (.inr (.inr (.inr (fun _ => none))))))]) ++ (iWs 6 (shX6 κ) gt ++ iWs 3 (shX5 κ) gr)) H locs := by rw [← List.append_assoc]; exact hw
    refine lv_iload_n hx hb dX7_init_84 rfl (lv_at hl 0 rfl) ?_
    refine lv_bipush (v := 7) hx hb dX7_init_85 (by decide) ?_
    refine lv_icmp_ge (tgt := 109) hx hb dX7_init_87 (by decide) (fun q => absurd q (by decide)) (fun _ => ?_)
    refine lv_aload_n hx hb dX7_init_90 rfl (lv_at hl 1 rfl) ?_
    refine i_get hc hw 0 rfl fX7_19 rfl dX7_init_91 ?_
    refine lv_iload_n hx hb dX7_init_94 rfl (lv_at hl 0 rfl) ?_
    refine i_mk hc.1 hc.2.2.2.2.1 hc.2.2.2.2.2.1 hc.2.2.2.2.2.2 hw hl.1 kRX7_9 (iX0_init l κ) (.inl nRX7_9) ⟨rfl, rfl⟩ ⟨by decide, by decide⟩ ⟨by decide, by decide⟩ (Nat.le_of_ble_eq_true rfl) dX7_init_95 dX7_init_98 dX7_init_99 (fun gb0 H locs hw => ?_)
    refine i_aast hc hw (k := 53) rfl (j := 0) rfl (by decide) dX7_init_102 (fun H locs hw => ?_)
    have hw : iW κ A s ((([(b, .inr (7, [.ref (ga0 0), .ref (ga1 0), .ref qr, .ref (gt 0), .ref (gr 0), .int 0, .int 0, .int 0, .int (-1), .int (-1)]))] ++ iWs 26 (shX0 κ) ga0 ++ iWs 26 (shX0 κ) ga1) ++ [(qr, .inl (xcA κ, 7, .inr (.inr (.inr (.inr (va_up (fun _ => none) 0 (some (gb0 0))))))))]) ++ ((iWs 6 (shX6 κ) gt ++ iWs 3 (shX5 κ) gr) ++ iWs 26 (shX0 κ) gb0)) H locs := hw
    refine lv_iinc (v := 1) (lv' := [(1, .int 1), (0, .ref b)]) hx hb dX7_init_103 hl (k := 0) rfl (by decide) (by decide) rfl (fun ls hl => ?_)
    refine lv_goto (tgt := 84) hx hb dX7_init_106 (by decide) ?_
    refine lv_iload_n hx hb dX7_init_84 rfl (lv_at hl 0 rfl) ?_
    refine lv_bipush (v := 7) hx hb dX7_init_85 (by decide) ?_
    refine lv_icmp_ge (tgt := 109) hx hb dX7_init_87 (by decide) (fun q => absurd q (by decide)) (fun _ => ?_)
    refine lv_aload_n hx hb dX7_init_90 rfl (lv_at hl 1 rfl) ?_
    refine i_get hc hw 0 rfl fX7_19 rfl dX7_init_91 ?_
    refine lv_iload_n hx hb dX7_init_94 rfl (lv_at hl 0 rfl) ?_
    refine i_mk hc.1 hc.2.2.2.2.1 hc.2.2.2.2.2.1 hc.2.2.2.2.2.2 hw hl.1 kRX7_9 (iX0_init l κ) (.inl nRX7_9) ⟨rfl, rfl⟩ ⟨by decide, by decide⟩ ⟨by decide, by decide⟩ (Nat.le_of_ble_eq_true rfl) dX7_init_95 dX7_init_98 dX7_init_99 (fun gb1 H locs hw => ?_)
    refine i_aast hc hw (k := 53) rfl (j := 1) rfl (by decide) dX7_init_102 (fun H locs hw => ?_)
    have hw : iW κ A s ((([(b, .inr (7, [.ref (ga0 0), .ref (ga1 0), .ref qr, .ref (gt 0), .ref (gr 0), .int 0, .int 0, .int 0, .int (-1), .int (-1)]))] ++ iWs 26 (shX0 κ) ga0 ++ iWs 26 (shX0 κ) ga1) ++ [(qr, .inl (xcA κ, 7, .inr (.inr (.inr (.inr (va_up (va_up (fun _ => none) 0 (some (gb0 0))) 1 (some (gb1 0))))))))]) ++ (((iWs 6 (shX6 κ) gt ++ iWs 3 (shX5 κ) gr) ++ iWs 26 (shX0 κ) gb0) ++ iWs 26 (shX0 κ) gb1)) H locs := hw
    refine lv_iinc (v := 2) (lv' := [(1, .int 2), (0, .ref b)]) hx hb dX7_init_103 hl (k := 0) rfl (by decide) (by decide) rfl (fun ls hl => ?_)
    refine lv_goto (tgt := 84) hx hb dX7_init_106 (by decide) ?_
    refine lv_iload_n hx hb dX7_init_84 rfl (lv_at hl 0 rfl) ?_
    refine lv_bipush (v := 7) hx hb dX7_init_85 (by decide) ?_
    refine lv_icmp_ge (tgt := 109) hx hb dX7_init_87 (by decide) (fun q => absurd q (by decide)) (fun _ => ?_)
    refine lv_aload_n hx hb dX7_init_90 rfl (lv_at hl 1 rfl) ?_
    refine i_get hc hw 0 rfl fX7_19 rfl dX7_init_91 ?_
    refine lv_iload_n hx hb dX7_init_94 rfl (lv_at hl 0 rfl) ?_
    refine i_mk hc.1 hc.2.2.2.2.1 hc.2.2.2.2.2.1 hc.2.2.2.2.2.2 hw hl.1 kRX7_9 (iX0_init l κ) (.inl nRX7_9) ⟨rfl, rfl⟩ ⟨by decide, by decide⟩ ⟨by decide, by decide⟩ (Nat.le_of_ble_eq_true rfl) dX7_init_95 dX7_init_98 dX7_init_99 (fun gb2 H locs hw => ?_)
    refine i_aast hc hw (k := 53) rfl (j := 2) rfl (by decide) dX7_init_102 (fun H locs hw => ?_)
    have hw : iW κ A s ((([(b, .inr (7, [.ref (ga0 0), .ref (ga1 0), .ref qr, .ref (gt 0), .ref (gr 0), .int 0, .int 0, .int 0, .int (-1), .int (-1)]))] ++ iWs 26 (shX0 κ) ga0 ++ iWs 26 (shX0 κ) ga1) ++ [(qr, .inl (xcA κ, 7, .inr (.inr (.inr (.inr (va_up (va_up (va_up (fun _ => none) 0 (some (gb0 0))) 1 (some (gb1 0))) 2 (some (gb2 0))))))))]) ++ ((((iWs 6 (shX6 κ) gt ++ iWs 3 (shX5 κ) gr) ++ iWs 26 (shX0 κ) gb0) ++ iWs 26 (shX0 κ) gb1) ++ iWs 26 (shX0 κ) gb2)) H locs := hw
    refine lv_iinc (v := 3) (lv' := [(1, .int 3), (0, .ref b)]) hx hb dX7_init_103 hl (k := 0) rfl (by decide) (by decide) rfl (fun ls hl => ?_)
    refine lv_goto (tgt := 84) hx hb dX7_init_106 (by decide) ?_
    refine lv_iload_n hx hb dX7_init_84 rfl (lv_at hl 0 rfl) ?_
    refine lv_bipush (v := 7) hx hb dX7_init_85 (by decide) ?_
    refine lv_icmp_ge (tgt := 109) hx hb dX7_init_87 (by decide) (fun q => absurd q (by decide)) (fun _ => ?_)
    refine lv_aload_n hx hb dX7_init_90 rfl (lv_at hl 1 rfl) ?_
    refine i_get hc hw 0 rfl fX7_19 rfl dX7_init_91 ?_
    refine lv_iload_n hx hb dX7_init_94 rfl (lv_at hl 0 rfl) ?_
    refine i_mk hc.1 hc.2.2.2.2.1 hc.2.2.2.2.2.1 hc.2.2.2.2.2.2 hw hl.1 kRX7_9 (iX0_init l κ) (.inl nRX7_9) ⟨rfl, rfl⟩ ⟨by decide, by decide⟩ ⟨by decide, by decide⟩ (Nat.le_of_ble_eq_true rfl) dX7_init_95 dX7_init_98 dX7_init_99 (fun gb3 H locs hw => ?_)
    refine i_aast hc hw (k := 53) rfl (j := 3) rfl (by decide) dX7_init_102 (fun H locs hw => ?_)
    have hw : iW κ A s ((([(b, .inr (7, [.ref (ga0 0), .ref (ga1 0), .ref qr, .ref (gt 0), .ref (gr 0), .int 0, .int 0, .int 0, .int (-1), .int (-1)]))] ++ iWs 26 (shX0 κ) ga0 ++ iWs 26 (shX0 κ) ga1) ++ [(qr, .inl (xcA κ, 7, .inr (.inr (.inr (.inr (va_up (va_up (va_up (va_up (fun _ => none) 0 (some (gb0 0))) 1 (some (gb1 0))) 2 (some (gb2 0))) 3 (some (gb3 0))))))))]) ++ (((((iWs 6 (shX6 κ) gt ++ iWs 3 (shX5 κ) gr) ++ iWs 26 (shX0 κ) gb0) ++ iWs 26 (shX0 κ) gb1) ++ iWs 26 (shX0 κ) gb2) ++ iWs 26 (shX0 κ) gb3)) H locs := hw
    refine lv_iinc (v := 4) (lv' := [(1, .int 4), (0, .ref b)]) hx hb dX7_init_103 hl (k := 0) rfl (by decide) (by decide) rfl (fun ls hl => ?_)
    refine lv_goto (tgt := 84) hx hb dX7_init_106 (by decide) ?_
    refine lv_iload_n hx hb dX7_init_84 rfl (lv_at hl 0 rfl) ?_
    refine lv_bipush (v := 7) hx hb dX7_init_85 (by decide) ?_
    refine lv_icmp_ge (tgt := 109) hx hb dX7_init_87 (by decide) (fun q => absurd q (by decide)) (fun _ => ?_)
    refine lv_aload_n hx hb dX7_init_90 rfl (lv_at hl 1 rfl) ?_
    refine i_get hc hw 0 rfl fX7_19 rfl dX7_init_91 ?_
    refine lv_iload_n hx hb dX7_init_94 rfl (lv_at hl 0 rfl) ?_
    refine i_mk hc.1 hc.2.2.2.2.1 hc.2.2.2.2.2.1 hc.2.2.2.2.2.2 hw hl.1 kRX7_9 (iX0_init l κ) (.inl nRX7_9) ⟨rfl, rfl⟩ ⟨by decide, by decide⟩ ⟨by decide, by decide⟩ (Nat.le_of_ble_eq_true rfl) dX7_init_95 dX7_init_98 dX7_init_99 (fun gb4 H locs hw => ?_)
    refine i_aast hc hw (k := 53) rfl (j := 4) rfl (by decide) dX7_init_102 (fun H locs hw => ?_)
    have hw : iW κ A s ((([(b, .inr (7, [.ref (ga0 0), .ref (ga1 0), .ref qr, .ref (gt 0), .ref (gr 0), .int 0, .int 0, .int 0, .int (-1), .int (-1)]))] ++ iWs 26 (shX0 κ) ga0 ++ iWs 26 (shX0 κ) ga1) ++ [(qr, .inl (xcA κ, 7, .inr (.inr (.inr (.inr (va_up (va_up (va_up (va_up (va_up (fun _ => none) 0 (some (gb0 0))) 1 (some (gb1 0))) 2 (some (gb2 0))) 3 (some (gb3 0))) 4 (some (gb4 0))))))))]) ++ ((((((iWs 6 (shX6 κ) gt ++ iWs 3 (shX5 κ) gr) ++ iWs 26 (shX0 κ) gb0) ++ iWs 26 (shX0 κ) gb1) ++ iWs 26 (shX0 κ) gb2) ++ iWs 26 (shX0 κ) gb3) ++ iWs 26 (shX0 κ) gb4)) H locs := hw
    refine lv_iinc (v := 5) (lv' := [(1, .int 5), (0, .ref b)]) hx hb dX7_init_103 hl (k := 0) rfl (by decide) (by decide) rfl (fun ls hl => ?_)
    refine lv_goto (tgt := 84) hx hb dX7_init_106 (by decide) ?_
    refine lv_iload_n hx hb dX7_init_84 rfl (lv_at hl 0 rfl) ?_
    refine lv_bipush (v := 7) hx hb dX7_init_85 (by decide) ?_
    refine lv_icmp_ge (tgt := 109) hx hb dX7_init_87 (by decide) (fun q => absurd q (by decide)) (fun _ => ?_)
    refine lv_aload_n hx hb dX7_init_90 rfl (lv_at hl 1 rfl) ?_
    refine i_get hc hw 0 rfl fX7_19 rfl dX7_init_91 ?_
    refine lv_iload_n hx hb dX7_init_94 rfl (lv_at hl 0 rfl) ?_
    refine i_mk hc.1 hc.2.2.2.2.1 hc.2.2.2.2.2.1 hc.2.2.2.2.2.2 hw hl.1 kRX7_9 (iX0_init l κ) (.inl nRX7_9) ⟨rfl, rfl⟩ ⟨by decide, by decide⟩ ⟨by decide, by decide⟩ (Nat.le_of_ble_eq_true rfl) dX7_init_95 dX7_init_98 dX7_init_99 (fun gb5 H locs hw => ?_)
    refine i_aast hc hw (k := 53) rfl (j := 5) rfl (by decide) dX7_init_102 (fun H locs hw => ?_)
    have hw : iW κ A s ((([(b, .inr (7, [.ref (ga0 0), .ref (ga1 0), .ref qr, .ref (gt 0), .ref (gr 0), .int 0, .int 0, .int 0, .int (-1), .int (-1)]))] ++ iWs 26 (shX0 κ) ga0 ++ iWs 26 (shX0 κ) ga1) ++ [(qr, .inl (xcA κ, 7, .inr (.inr (.inr (.inr (va_up (va_up (va_up (va_up (va_up (va_up (fun _ => none) 0 (some (gb0 0))) 1 (some (gb1 0))) 2 (some (gb2 0))) 3 (some (gb3 0))) 4 (some (gb4 0))) 5 (some (gb5 0))))))))]) ++ (((((((iWs 6 (shX6 κ) gt ++ iWs 3 (shX5 κ) gr) ++ iWs 26 (shX0 κ) gb0) ++ iWs 26 (shX0 κ) gb1) ++ iWs 26 (shX0 κ) gb2) ++ iWs 26 (shX0 κ) gb3) ++ iWs 26 (shX0 κ) gb4) ++ iWs 26 (shX0 κ) gb5)) H locs := hw
    refine lv_iinc (v := 6) (lv' := [(1, .int 6), (0, .ref b)]) hx hb dX7_init_103 hl (k := 0) rfl (by decide) (by decide) rfl (fun ls hl => ?_)
    refine lv_goto (tgt := 84) hx hb dX7_init_106 (by decide) ?_
    refine lv_iload_n hx hb dX7_init_84 rfl (lv_at hl 0 rfl) ?_
    refine lv_bipush (v := 7) hx hb dX7_init_85 (by decide) ?_
    refine lv_icmp_ge (tgt := 109) hx hb dX7_init_87 (by decide) (fun q => absurd q (by decide)) (fun _ => ?_)
    refine lv_aload_n hx hb dX7_init_90 rfl (lv_at hl 1 rfl) ?_
    refine i_get hc hw 0 rfl fX7_19 rfl dX7_init_91 ?_
    refine lv_iload_n hx hb dX7_init_94 rfl (lv_at hl 0 rfl) ?_
    refine i_mk hc.1 hc.2.2.2.2.1 hc.2.2.2.2.2.1 hc.2.2.2.2.2.2 hw hl.1 kRX7_9 (iX0_init l κ) (.inl nRX7_9) ⟨rfl, rfl⟩ ⟨by decide, by decide⟩ ⟨by decide, by decide⟩ (Nat.le_of_ble_eq_true rfl) dX7_init_95 dX7_init_98 dX7_init_99 (fun gb6 H locs hw => ?_)
    refine i_aast hc hw (k := 53) rfl (j := 6) rfl (by decide) dX7_init_102 (fun H locs hw => ?_)
    have hw : iW κ A s ((([(b, .inr (7, [.ref (ga0 0), .ref (ga1 0), .ref qr, .ref (gt 0), .ref (gr 0), .int 0, .int 0, .int 0, .int (-1), .int (-1)]))] ++ iWs 26 (shX0 κ) ga0 ++ iWs 26 (shX0 κ) ga1) ++ [(qr, .inl (xcA κ, 7, .inr (.inr (.inr (.inr (va_up (va_up (va_up (va_up (va_up (va_up (va_up (fun _ => none) 0 (some (gb0 0))) 1 (some (gb1 0))) 2 (some (gb2 0))) 3 (some (gb3 0))) 4 (some (gb4 0))) 5 (some (gb5 0))) 6 (some (gb6 0))))))))]) ++ ((((((((iWs 6 (shX6 κ) gt ++ iWs 3 (shX5 κ) gr) ++ iWs 26 (shX0 κ) gb0) ++ iWs 26 (shX0 κ) gb1) ++ iWs 26 (shX0 κ) gb2) ++ iWs 26 (shX0 κ) gb3) ++ iWs 26 (shX0 κ) gb4) ++ iWs 26 (shX0 κ) gb5) ++ iWs 26 (shX0 κ) gb6)) H locs := hw
    refine lv_iinc (v := 7) (lv' := [(1, .int 7), (0, .ref b)]) hx hb dX7_init_103 hl (k := 0) rfl (by decide) (by decide) rfl (fun ls hl => ?_)
    refine lv_goto (tgt := 84) hx hb dX7_init_106 (by decide) ?_
    refine lv_iload_n hx hb dX7_init_84 rfl (lv_at hl 0 rfl) ?_
    refine lv_bipush (v := 7) hx hb dX7_init_85 (by decide) ?_
    refine lv_icmp_ge (tgt := 109) hx hb dX7_init_87 (by decide) (fun _ => ?_) (fun q => absurd (by decide) q)
    exact K 109 ls H locs (fun j => if j = 0 then b else if j < 27 then ga0 (j - 1) else if j < 53 then ga1 (j - 27) else if j = 53 then qr else if j < 60 then gt (j - 54) else if j < 63 then gr (j - 60) else if j < 89 then gb0 (j - 63) else if j < 115 then gb1 (j - 89) else if j < 141 then gb2 (j - 115) else if j < 167 then gb3 (j - 141) else if j < 193 then gb4 (j - 167) else if j < 219 then gb5 (j - 193) else gb6 (j - 219)) dX7_init_109 rfl hw
  exact go s.heap [] hw
