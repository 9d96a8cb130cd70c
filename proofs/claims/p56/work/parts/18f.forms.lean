/-! ===== the forms of the actions: constant Strings ===== -/
def fLenl : List Nat := [7, 5, 7, 6, 8, 8, 10, 6, 7, 11, 8]
def fBytl : List (List Int32) := [[102, 114, 111, 103, 32, 68, 68], [112, 97, 100, 32, 68], [104, 111, 112, 32, 78, 32, 68], [100, 105, 118, 101, 32, 78], [109, 111, 116, 105, 111, 110, 32, 78], [108, 105, 115, 116, 32, 68, 32, 78], [115, 116, 114, 105, 107, 101, 32, 68, 32, 78], [99, 97, 108, 108, 32, 68], [101, 110, 100, 32, 68, 32, 78], [99, 114, 111, 97, 107, 32, 68, 32, 78, 83, 68], [100, 101, 99, 105, 100, 101, 32, 68]]
section FORMS
variable {p : Program} {l : Launch} {e : Env} {R : Room} {s : State} {m : MethodId} {args : Array Value} {below : List Frame} {meth : Method} {c : Code} {H : Heap} {locs : List Loc} {cells slots : Nat} {Q : State → Prop}
variable {cc : ByteArray} {nL : Nat} {own : String} {pc : Nat} {ls : Array Slot} {rest st0 : List Value} {g : GG} {X : va_W} {N : Nat} {sh : Shp} {b : Nat → Nat} {M : Mem} {index : Nat} {r0 : Nat → Nat}
theorem r_sval (C0 : CallFix p m c cc nL s args LWg own) (C1 : CX g X N sh b s) (hI : PI g X N sh b s M H locs) {i : Nat} (hi : i < 11) (hw : (.fieldLink own index RJ0 "value" "[B") ∈ LWg) (hdg : decode cc pc = .ok (.getfield index, 3))
    (kk : W p l e R s m args below meth c H locs cells slots Q (F0 m (pc + 3) ls (.ref (g.2.2 4 i) :: rest))) : W p l e R s m args below meth c H locs cells slots Q (F0 m pc ls (.ref (g.2.2 3 i) :: rest)) :=
  vk_getf C0.1 C0.2.1 (C1.2.2.1.2.2.2.2.2.2.2.2.2.1.1 i hi).2.2.1 hI.2 C0.2.2.2.1 (C0.2.2.2.2 _ hw) (fun _ h => h) hdg kk
theorem r_scod (C0 : CallFix p m c cc nL s args LWg own) (C1 : CX g X N sh b s) (hI : PI g X N sh b s M H locs) {i : Nat} (hi : i < 11) (hw : (.fieldLink own index RJ0 "coder" "B") ∈ LWg) (hdg : decode cc pc = .ok (.getfield index, 3))
    (kk : W p l e R s m args below meth c H locs cells slots Q (F0 m (pc + 3) ls (.int 0 :: rest))) : W p l e R s m args below meth c H locs cells slots Q (F0 m pc ls (.ref (g.2.2 3 i) :: rest)) :=
  vk_getf C0.1 C0.2.1 (C1.2.2.1.2.2.2.2.2.2.2.2.2.1.1 i hi).2.1 hI.2 C0.2.2.2.1 (C0.2.2.2.2 _ hw) (fun _ h => h) hdg kk
theorem r_form (C0 : CallFix p m c cc nL s args LWg own) (C1 : CX g X N sh b s) (hI : PI g X N sh b s M H locs) {i : Nat} (hi : i < 11) (k9 : Nat) {host : String} (hw : nestF[k9]? = some (own, index, RX1, "form", "Ljava/lang/String;", host)) (hdg : decode cc pc = .ok (.getfield index, 3))
    (kk : W p l e R s m args below meth c H locs cells slots Q (F0 m (pc + 3) ls (.ref (g.2.2 3 i) :: rest))) : W p l e R s m args below meth c H locs cells slots Q (F0 m pc ls (.ref (g.2.2 1 i) :: rest)) := by
  obtain ⟨cf, k, fi, f, cell, h1, h2, h3, h4, h5, h6⟩ := (C1.2.2.1.2.2.2.2.2.2.2.2.1 i hi).kept hI.2.2.1
  exact va_Wgetf C0.1 C0.2.1 C0.2.2.2.1 (va_Nw.use rfl (C1.2.2.2.2.1 _ (List.mem_of_getElem? hw))) h1 h2 h3 h4 (v := .ref (g.2.2 3 i)) h5 rfl rfl hdg kk
theorem r_flen (C0 : CallFix p m c cc nL s args LWg own) (C1 : CX g X N sh b s) (hI : PI g X N sh b s M H locs) {i : Nat} (hi : i < 11) (hdg : decode cc pc = .ok (.arraylength, 1))
    (kk : W p l e R s m args below meth c H locs cells slots Q (F0 m (pc + 1) ls (.int (nI (fLenl.getD i 0)) :: rest))) : W p l e R s m args below meth c H locs cells slots Q (F0 m pc ls (.ref (g.2.2 4 i) :: rest)) :=
  va_tlen C0.1 C0.2.1 (C1.2.2.1.2.2.2.2.2.2.2.2.2.1.1 i hi).2.2.2 hI.2 rfl hdg kk
theorem r_fbld (C0 : CallFix p m c cc nL s args LWg own) (C1 : CX g X N sh b s) (hI : PI g X N sh b s M H locs) {i : Nat} (hi : i < 11) {j : Int32} (hj : inb j (fLenl.getD i 0) = true) (hdg : decode cc pc = .ok (.baload, 1))
    (kk : W p l e R s m args below meth c H locs cells slots Q (F0 m (pc + 1) ls (.int ((fBytl.getD i []).getD (ix j) 0) :: rest))) : W p l e R s m args below meth c H locs cells slots Q (F0 m pc ls (.int j :: .ref (g.2.2 4 i) :: rest)) :=
  va_tb C0.1 C0.2.1 (C1.2.2.1.2.2.2.2.2.2.2.2.2.1.1 i hi).2.2.2 hI.2 (inb_in hj) rfl hdg kk
theorem r_acts (C0 : CallFix p m c cc nL s args LWg own) (C1 : CX g X N sh b s) (hI : PI g X N sh b s M H locs) (hw : (.fieldLink own index RX4 "ACTIONS" "[LFrogParliament$Action;") ∈ LWg) (hdg : decode cc pc = .ok (.getstatic index, 3))
    (kk : W p l e R s m args below meth c H locs cells slots Q (F0 m (pc + 3) ls (.ref (g.2.2 2 2) :: rest))) : W p l e R s m args below meth c H locs cells slots Q (F0 m pc ls rest) :=
  va_gets (C := RX4) (n := "ACTIONS") C0.1 C0.2.1 C1.2.2.1.2.2.2.2.2.2.1 hI.2 C0.2.2.2.1 (C0.2.2.2.2 _ hw) (fun _ h => h) hdg kk
theorem r_aclen (C0 : CallFix p m c cc nL s args LWg own) (C1 : CX g X N sh b s) (hI : PI g X N sh b s M H locs) (hdg : decode cc pc = .ok (.arraylength, 1))
    (kk : W p l e R s m args below meth c H locs cells slots Q (F0 m (pc + 1) ls (.int (11 : Int32) :: rest))) : W p l e R s m args below meth c H locs cells slots Q (F0 m pc ls (.ref (g.2.2 2 2) :: rest)) :=
  va_tlen C0.1 C0.2.1 C1.2.2.1.2.2.2.2.2.2.2.1 hI.2 rfl hdg kk
theorem r_acld (C0 : CallFix p m c cc nL s args LWg own) (C1 : CX g X N sh b s) (hI : PI g X N sh b s M H locs) {j : Int32} (hj : inb j 11 = true) (hdg : decode cc pc = .ok (.aaload, 1))
    (kk : W p l e R s m args below meth c H locs cells slots Q (F0 m (pc + 1) ls (.ref (g.2.2 1 (ix j)) :: rest))) : W p l e R s m args below meth c H locs cells slots Q (F0 m pc ls (.int j :: .ref (g.2.2 2 2) :: rest)) :=
  vb_tq C0.1 C0.2.1 C1.2.2.1.2.2.2.2.2.2.2.1 hI.2 (inb_in hj) rfl hdg kk
theorem r_putaN (C0 : CallFix p m c cc nL s args LWg own) (C1 : CX g X 372 (shI g r0 b) b s) (hI : PI g X 372 (shI g r0 b) b s M H locs) {k : Nat} (hk : kdI k = 11) {x : Int32} {host : String} (i : Nat) (hw : nestF[i]? = some (own, index, RX3, "action", "LFrogParliament$Action;", host)) (hdg : decode cc pc = .ok (.putfield index, 3))
    (kk : ∀ (H : Heap) (locs : List Loc), PI g X 372 (shI g r0 b) b s (up2 M k 0 x) H locs → W p l e R s m args below meth c H locs cells slots Q (F0 m (pc + 3) ls rest)) : W p l e R s m args below meth c H locs cells slots Q (F0 m pc ls (.ref (g.2.2 1 (ix x)) :: .ref (b k) :: rest)) := by
  have e1 : (X ++ pw 372 (shI g r0 b) b M).set (X.length + k) (b k, .inr (5, (fC g b k (M k)).set 0 (.ref (g.2.2 1 (ix x))))) = X ++ pw 372 (shI g r0 b) b (up2 M k 0 x) := by
    rw [show (fC g b k (M k)).set 0 (.ref (g.2.2 1 (ix x))) = fC g b k (upd (M k) 0 x) from rfl, ← shI_11 hk (r := r0)]
    exact pw_set X (kdlt11 hk)
  refine va_putN (C := RX3) (T := TX3) (N := 3) (fs := fC g b k (M k)) C0.1 C0.2.1 C0.2.2.2.2 iX3 tyX3 tyX3_ok nmX3 C0.2.2.2.1 C1.1 hI.1 (C1.2.1 M) hI.2 (X.length + k) (by rw [pw_get X (kdlt11 hk), shI_11 hk]) rfl 0 (by decide) (va_Nw.use rfl (C1.2.2.2.2.1 _ (List.mem_of_getElem? hw))) (fun x h => h) rfl (ty := .object "FrogParliament$Action") (v := .ref (g.2.2 1 (ix x))) (by decide +kernel) rfl rfl (Nat.le_of_ble_eq_true rfl) hdg (fun H1 locs1 hP hD hS => kk H1 locs1 ⟨?_, hS⟩)
  rw [← e1]
  exact hP
variable {y : MethodName} {bytes : ByteArray} {maxL n mc ms : Nat} {ret : Option FieldType} {rm : Room} {As : List Value} {Qc : Array Value → State → Outcome → State → Prop} {free : Addr → Prop}
theorem q_St (C0 : CallFix p m c cc nL s args LWg own) (C1 : CX g X N sh b s) (hI : PI g X N sh b s M H locs) {i : Nat} (hi : i < 11) (hM : Met l y (.code y bytes maxL ret :: LWg) rm (va_Pc (.ref (g.2.2 3 i) :: As) (PreP g X N sh b H.size M)) Qc mc ms free) (h1 : (.methodLink own index y) ∈ LWg) (h2 : (.instanceMethod y) ∈ LWg) (h3 : (.selects y.cls y y) ∈ LWg) (h4 : (.initialized y.cls) ∈ LWg) (h5 : (.code y bytes maxL ret) ∈ LWg)
    (hr : rm.cells = mc ∧ rm.slots = ms) (hd : y.cls ≠ "java/lang/invoke/MethodHandle" ∧ y.cls ≠ "java/lang/invoke/VarHandle" ∧ (parseMethodDescriptor y.desc).map (fun d => d.parameters.length) = some n) (hR : rm.frames + 1 ≤ R.frames ∧ 8 + (maxL + 11) + rm.locals ≤ R.locals) (hrc : "java/lang/String" = y.cls)
    (hn : As.length = n) (hls : ls.size = nL) (hst : st0 = As.reverse ++ .ref (g.2.2 3 i) :: rest) (hW : (rest.map fun v => v.category).sum ≤ 8) (hdg : decode cc pc = .ok (.invokevirtual index, 3)) (hf : cells + mc ≤ R.cells ∧ slots + ms ≤ R.slots) :
    va_Run p l e R s m args below meth c H locs cells slots mc ms (F0 m pc ls st0) rest (Qc (Value.ref (g.2.2 3 i) :: As).toArray) free :=
  va_runV C0 hM (cwV n C0.2.2.2.2 (good_c h1 (good_c h2 (good_c h3 (good_c h4 (good_all h5))))) rfl hr.1 hr.2 ⟨rfl, hd⟩ hR) ⟨PreP.blind, by
    obtain ⟨cell, z1, z2, z3, -⟩ := (C1.2.2.1.2.2.2.2.2.2.2.2.2.1.1 i hi).1.kept hI.2.2.1
    exact ⟨cell, z1, z2, by rw [← hrc]; exact z3⟩, fun U hU hW => ⟨rfl, PreP.call C1 hI hU hW⟩⟩ rfl hn hls hst (lv_room hW) hdg hf
end FORMS
