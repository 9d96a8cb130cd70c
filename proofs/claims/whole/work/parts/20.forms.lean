/-! ===== the forms of the actions: constant Strings ===== -/
section FORMS
variable {p : Program} {l : Launch} {e : Env} {R : Room} {s : State} {m : MethodId} {args : Array Value} {below : List Frame} {meth : Method} {c : Code} {H : Heap} {locs : List Loc} {cells slots : Nat} {Q : State → Prop}
variable {cc : ByteArray} {nL : Nat} {own : String} {pc : Nat} {ls : Array Slot} {rest st0 : List Value} {g : GG} {X : va_W} {N : Nat} {sh : Shp} {b : Nat → Nat} {M : Mem} {index : Nat}
theorem r_sval (C0 : CallFix p m c cc nL s args LWg own) (C1 : CX g X N sh b s) (hI : PI g X N sh b s M H locs) {i : Nat} (hi : i < 11) (hw : (.fieldLink own index RJ0 "value" "[B") ∈ LWg) (hdg : decode cc pc = .ok (.getfield index, 3))
    (kk : W p l e R s m args below meth c H locs cells slots Q (F0 m (pc + 3) ls (.ref (g.2.2 4 i) :: rest))) : W p l e R s m args below meth c H locs cells slots Q (F0 m pc ls (.ref (g.2.2 3 i) :: rest)) :=
  vk_getf C0.1 C0.2.1 (C1.2.2.1.2.2.2.2.2.2.2.2.2.1.1 i hi).2.2.1 hI.2 C0.2.2.2.1 (C0.2.2.2.2 _ hw) (fun _ h => h) hdg kk
theorem r_scod (C0 : CallFix p m c cc nL s args LWg own) (C1 : CX g X N sh b s) (hI : PI g X N sh b s M H locs) {i : Nat} (hi : i < 11) (hw : (.fieldLink own index RJ0 "coder" "B") ∈ LWg) (hdg : decode cc pc = .ok (.getfield index, 3))
    (kk : W p l e R s m args below meth c H locs cells slots Q (F0 m (pc + 3) ls (.int 0 :: rest))) : W p l e R s m args below meth c H locs cells slots Q (F0 m pc ls (.ref (g.2.2 3 i) :: rest)) :=
  vk_getf C0.1 C0.2.1 (C1.2.2.1.2.2.2.2.2.2.2.2.2.1.1 i hi).2.1 hI.2 C0.2.2.2.1 (C0.2.2.2.2 _ hw) (fun _ h => h) hdg kk
theorem r_form (C0 : CallFix p m c cc nL s args LWg own) (C1 : CX g X N sh b s) (hI : PI g X N sh b s M H locs) {i : Nat} (hi : i < 11) (k9 : Nat) {host : String} (hw : nestF[k9]? = some (own, index, RX1, "form", "Ljava/lang/String;", host)) (hdg : decode cc pc = .ok (.getfield index, 3))
    (kk : W p l e R s m args below meth c H locs cells slots Q (F0 m (pc + 3) ls (.ref (g.2.2 3 i) :: rest))) : W p l e R s m args below meth c H locs cells slots Q (F0 m pc ls (.ref (g.2.2 1 i) :: rest)) := by
  obtain ⟨cf, k, fi, f, cell, h1, h2, h3, h4, h5, h6⟩ := (C1.2.2.1.2.2.2.2.2.2.2.2.1 i hi).kept hI.2.2.1
  exact va_Wgetf C0.1 C0.2.1 C0.2.2.2.1 (va_Nw.use rfl (C1.2.2.2.2.1 _ (List.mem_of_getElem? hw))) h1 h2 h3 h4 (v := .ref (g.2.2 3 i)) h5 rfl rfl hdg kk
end FORMS
