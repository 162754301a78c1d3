-- a call of a wrapper that catches
section XHS
variable {κ : xKt} {A : Nat → Prop} {p : Program} {l : Launch} {e : Env} {R : Room} {s : State} {m : MethodId} {args : Array Value} {below : List Frame} {meth : Method} {c : Code} {H : Heap} {locs : List Loc} {cells slots : Nat} {Q : State → Prop}
variable {cc : ByteArray} {own : String} {nL : Nat} {ret : Option FieldType} {pc : Nat} {ls : Array Slot} {rest : List Value} {σ σ' : sW} {y : MethodName} {bytes : ByteArray} {maxL idx n : Nat} {rt : Option FieldType} {rm : Room} {As : List Value} {hh : List (Nat × Nat × Nat × Nat)}
theorem x_hcalliS {st : List Value} (hc : xC κ A p s m args meth c cc own nL ret) (hw : xW κ A s σ H locs) (hsz : ls.size = nL) (hlt : l.stackTraces = false) {r : Int32} (hM : xHi l κ y bytes maxL rt hh rm As σ σ' r) (hk : xHk own idx y bytes maxL rt hh n) (hst : st = As.reverse ++ rest) (hn : As.length = n) (hm : rm.cells = 1 ∧ rm.slots = 6) (hR : rm.frames + 1 ≤ R.frames ∧ 8 + (maxL + 11) + rm.locals ≤ R.locals) (hcs : cells + 1 ≤ R.cells ∧ slots + 6 ≤ R.slots) (hrs : (rest.map fun v => v.category).sum ≤ 8) (hdg : decode cc pc = .ok (.invokestatic idx, 3))
    (kk : ∀ (H : Heap) (locs : List Loc), xW κ A s σ' H locs → W p l e R s m args below meth c H locs (cells + 1) (slots + 6) Q (F0 m (pc + 3) ls (.int r :: rest))) : W p l e R s m args below meth c H locs cells slots Q (F0 m pc ls st) := by
  obtain ⟨h1, h2⟩ := x_pre hc hw
  refine va_calli (vx_runSW (As := As) (rest := rest) hc.1 (hM hlt H.size) (vx_cwSW n hc.1.2.2.2.2 (x_goodH hk) rfl hm.1 hm.2 hk.2.2.2.2 hR) ⟨x_blind _ _ _ _, fun U hU hW => ⟨rfl, h2 U hU hW⟩⟩ rfl hn hsz hst (lv_room hrs) hdg ⟨hcs.1, hcs.2⟩) hw.2 (fun q _ h => h1 q h) h1 (fun r2 u t H1 locs1 ht hvm hw1 hB hz1 hk1 hS => ?_)
  subst hw1
  rw [ht] at hB
  exact kk H1 locs1 ⟨hB, hS⟩
end XHS
