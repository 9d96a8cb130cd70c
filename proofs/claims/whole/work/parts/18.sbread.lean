section SBCALLS
variable {p : Program} {l : Launch} {e : Env} {R : Room} {s : State} {m : MethodId} {args : Array Value} {below : List Frame} {meth : Method} {c : Code} {H : Heap} {locs : List Loc} {cells slots : Nat} {Q : State → Prop}
variable {cc : ByteArray} {nL : Nat} {own : String} {pc : Nat} {ls : Array Slot} {rest st0 : List Value} {g : GG} {X : va_W} {N : Nat} {sh : Shp} {b : Nat → Nat} {M : Mem}
variable {y : MethodName} {bytes : ByteArray} {maxL n mc ms index : Nat} {ret : Option FieldType} {rm : Room} {As : List Value} {Qc : Array Value → State → Outcome → State → Prop} {free : Addr → Prop}
theorem xb_0 {r : Nat → Nat} : (xb g r M ++ X)[0]? = some (r 370, .inl (g.2.1 4, ix (M 374 0), .inl (M 372))) := by rw [xb_cons, List.getElem?_cons_zero]
theorem xb_1 {r : Nat → Nat} : (xb g r M ++ X)[1]? = some (r 371, .inl (g.2.1 4, ix (M 374 1), .inl (M 373))) := by rw [xb_cons, List.getElem?_cons_succ, List.getElem?_cons_zero]
theorem r_cs (C0 : CallFix p m c cc nL s args LWg own) (C1 : CX g X N sh b s) (hI : PI g X N sh b s M H locs) (hw : (.fieldLink own index RJ0 "COMPACT_STRINGS" "Z") ∈ LWg) (hdg : decode cc pc = .ok (.getstatic index, 3))
    (kk : W p l e R s m args below meth c H locs cells slots Q (F0 m (pc + 3) ls (.int 1 :: rest))) : W p l e R s m args below meth c H locs cells slots Q (F0 m pc ls rest) :=
  va_gets (C := RJ0) (n := "COMPACT_STRINGS") C0.1 C0.2.1 C1.2.2.1.2.2.2.2.2.2.2.2.2.2.2.2.1 hI.2 C0.2.2.2.1 (C0.2.2.2.2 _ hw) (fun _ h => h) hdg kk
theorem q_U (C0 : CallFix p m c cc nL s args LWg own) (C1 : CX g X N sh b s) (hI : PI g X N sh b s M H locs) (k : Nat) (hM : Met l y (.code y bytes maxL ret :: LWg) rm (va_Pc (.ref (b k) :: As) (PreP g X N sh b H.size M)) Qc mc ms free) (C : String) (h1 : (.methodLink own index y) ∈ LWg) (h0 : (.sameMethod y.cls y.cls y.name y.desc) ∈ LWg) (h3 : (.selects C y y) ∈ LWg) (h2 : (.instanceMethod y) ∈ LWg) (h4 : (.initialized y.cls) ∈ LWg) (h5 : (.code y bytes maxL ret) ∈ LWg)
    (hr : rm.cells = mc ∧ rm.slots = ms) (hd : y.cls ≠ "java/lang/invoke/MethodHandle" ∧ y.cls ≠ "java/lang/invoke/VarHandle" ∧ (parseMethodDescriptor y.desc).map (fun d => d.parameters.length) = some n) (hR : rm.frames + 1 ≤ R.frames ∧ 8 + (maxL + 11) + rm.locals ≤ R.locals) {ci : Nat} {fs : List Value} {r : vw_C} (hk : k < N) (hs : sh k (M k) = .inr (ci, fs)) (hc : vwCl[ci]? = some r) (hrc : r.1 = C)
    (hn : As.length = n) (hls : ls.size = nL) (hst : st0 = As.reverse ++ .ref (b k) :: rest) (hW : (rest.map fun v => v.category).sum ≤ 8) (hdg : decode cc pc = .ok (.invokevirtual index, 3)) (hf : cells + mc ≤ R.cells ∧ slots + ms ≤ R.slots) :
    va_Run p l e R s m args below meth c H locs cells slots mc ms (F0 m pc ls st0) rest (Qc (Value.ref (b k) :: As).toArray) free :=
  va_runU (C := C) (owner := y.cls) (x := y) C0 hM (va_cwU n C0.2.2.2.2 (good_c h1 (good_c h0 (good_c h3 (good_c h2 (good_c h4 (good_all h5)))))) rfl hr.1 hr.2 rfl hd hR) ⟨PreP.blind, by rw [← hrc]; exact r_recv C1 hI hk hs hc, fun U hU hW => ⟨rfl, PreP.call C1 hI hU hW⟩⟩ rfl hn hls hst (lv_room hW) hdg hf
theorem q_SU (C0 : CallFix p m c cc nL s args LWg own) (C1 : CX g X N sh b s) (hI : PI g X N sh b s M H locs) (k : Nat) (hM : Met l y (.code y bytes maxL ret :: LWg) rm (va_Pc (.ref (b k) :: As) (PreP g X N sh b H.size M)) Qc mc ms free) (h1 : (.methodLink own index y) ∈ LWg) (h0 : (.sameMethod y.cls y.cls y.name y.desc) ∈ LWg) (h3 : (.superclass own y.cls) ∈ LWg) (h2 : (.instanceMethod y) ∈ LWg) (h4 : (.initialized y.cls) ∈ LWg) (h5 : (.code y bytes maxL ret) ∈ LWg)
    (hr : rm.cells = mc ∧ rm.slots = ms) (hd : y.name ≠ "<init>" ∧ (parseMethodDescriptor y.desc).map (fun d => d.parameters.length) = some n) (hR : rm.frames + 1 ≤ R.frames ∧ 8 + (maxL + 11) + rm.locals ≤ R.locals) {ci : Nat} {fs : List Value} {r : vw_C} (hk : k < N) (hs : sh k (M k) = .inr (ci, fs)) (hc : vwCl[ci]? = some r)
    (hn : As.length = n) (hls : ls.size = nL) (hst : st0 = As.reverse ++ .ref (b k) :: rest) (hW : (rest.map fun v => v.category).sum ≤ 8) (hdg : decode cc pc = .ok (.invokespecial index, 3)) (hf : cells + mc ≤ R.cells ∧ slots + ms ≤ R.slots) :
    va_Run p l e R s m args below meth c H locs cells slots mc ms (F0 m pc ls st0) rest (Qc (Value.ref (b k) :: As).toArray) free :=
  va_runSU (C := r.1) (C1.1.1 ci r hc).2 C0 hM (va_cwSU n C0.2.2.2.2 (good_c h1 (good_c h0 (good_c h3 (good_c h2 (good_c h4 (good_all h5)))))) rfl hr.1 hr.2 hd hR) ⟨PreP.blind, r_recv C1 hI hk hs hc, fun U hU hW => ⟨rfl, PreP.call C1 hI hU hW⟩⟩ rfl hn hls hst (lv_room hW) hdg hf
end SBCALLS
def F_J5_length_8abf5_t (n : Nat) (M : Mem) : Option Int32 :=
  some (M 370 3)
theorem hd_J5_length_8abf5 : yJ5_length_8abf5.cls ≠ "java/lang/invoke/MethodHandle" ∧ yJ5_length_8abf5.cls ≠ "java/lang/invoke/VarHandle" ∧ (parseMethodDescriptor yJ5_length_8abf5.desc).map (fun d => d.parameters.length) = some 0 := ⟨by decide +kernel, by decide +kernel, by decide +kernel⟩
set_option maxHeartbeats 4000000 in
set_option maxRecDepth 100000 in
theorem c_J5_length_8abf5_t (l : Launch) (g : GG) (X : va_W) (r : Nat → Nat) (b : Nat → Nat) (sz n : Nat) (M : Mem) {r0 : Int32} (hf : F_J5_length_8abf5_t n M = some r0) : Met l yJ5_length_8abf5 (.code yJ5_length_8abf5 cJ5_length_8abf5 1 (some .int) :: LWg) (rmD 0 0 0) (va_Pc [.ref (b 370)] (PreP g (xb g r M ++ X) 372 (shI g r b) b sz M)) (Qi g (xb g r M ++ X) 372 (shI g r b) b sz r0 M) 0 0 (AA (xb g r M ++ X) b 372 sz) := by
  refine met_go (by decide +kernel) rfl (Nat.le_of_ble_eq_true rfl) ?_
  intro p e s m below meth c ls H locs C0 C1 hr hlocks hnm hsz hl hI
  subst hsz
  have hl : lv_has ls 1 [(0, .ref (b 370))] := hl
  unfold F_J5_length_8abf5_t at hf
  refine lv_aload_n C0.1 C0.2.1 dJ5_length_8abf5_0 rfl (lv_at hl 0 rfl) ?_
  refine r_getA (C := RJ4) (T := TJ4) (N9 := 4) (ci := 1) C0 C1 hI iJ4 rfl 370 3 (kdlt13 (rfl : kdI 370 = 13)) (by decide) (shI_13 (rfl : kdI 370 = 13) _) rfl w_378 dJ5_length_8abf5_1 ?_
  exact ee_i C0 hI hr hlocks hf dJ5_length_8abf5_4

def F_J5_length_8abf5_l (n : Nat) (M : Mem) : Option Int32 :=
  some (M 371 3)
set_option maxHeartbeats 4000000 in
set_option maxRecDepth 100000 in
theorem c_J5_length_8abf5_l (l : Launch) (g : GG) (X : va_W) (r : Nat → Nat) (b : Nat → Nat) (sz n : Nat) (M : Mem) {r0 : Int32} (hf : F_J5_length_8abf5_l n M = some r0) : Met l yJ5_length_8abf5 (.code yJ5_length_8abf5 cJ5_length_8abf5 1 (some .int) :: LWg) (rmD 0 0 0) (va_Pc [.ref (b 371)] (PreP g (xb g r M ++ X) 372 (shI g r b) b sz M)) (Qi g (xb g r M ++ X) 372 (shI g r b) b sz r0 M) 0 0 (AA (xb g r M ++ X) b 372 sz) := by
  refine met_go (by decide +kernel) rfl (Nat.le_of_ble_eq_true rfl) ?_
  intro p e s m below meth c ls H locs C0 C1 hr hlocks hnm hsz hl hI
  subst hsz
  have hl : lv_has ls 1 [(0, .ref (b 371))] := hl
  unfold F_J5_length_8abf5_l at hf
  refine lv_aload_n C0.1 C0.2.1 dJ5_length_8abf5_0 rfl (lv_at hl 0 rfl) ?_
  refine r_getA (C := RJ4) (T := TJ4) (N9 := 4) (ci := 1) C0 C1 hI iJ4 rfl 371 3 (kdlt13 (rfl : kdI 371 = 13)) (by decide) (shI_13 (rfl : kdI 371 = 13) _) rfl w_378 dJ5_length_8abf5_1 ?_
  exact ee_i C0 hI hr hlocks hf dJ5_length_8abf5_4

def F_J4_length_8abf5_t (n : Nat) (M : Mem) : Option Int32 :=
  ob (F_J5_length_8abf5_t n M) (fun r_2 => some r_2)
theorem hd_J4_length_8abf5 : yJ4_length_8abf5.cls ≠ "java/lang/invoke/MethodHandle" ∧ yJ4_length_8abf5.cls ≠ "java/lang/invoke/VarHandle" ∧ (parseMethodDescriptor yJ4_length_8abf5.desc).map (fun d => d.parameters.length) = some 0 := ⟨by decide +kernel, by decide +kernel, by decide +kernel⟩
set_option maxHeartbeats 4000000 in
set_option maxRecDepth 100000 in
theorem c_J4_length_8abf5_t (l : Launch) (g : GG) (X : va_W) (r : Nat → Nat) (b : Nat → Nat) (sz n : Nat) (M : Mem) {r0 : Int32} (hf : F_J4_length_8abf5_t n M = some r0) : Met l yJ4_length_8abf5 (.code yJ4_length_8abf5 cJ4_length_8abf5 1 (some .int) :: LWg) (rmD 1 0 0) (va_Pc [.ref (b 370)] (PreP g (xb g r M ++ X) 372 (shI g r b) b sz M)) (Qi g (xb g r M ++ X) 372 (shI g r b) b sz r0 M) 0 0 (AA (xb g r M ++ X) b 372 sz) := by
  refine met_go (by decide +kernel) rfl (Nat.le_of_ble_eq_true rfl) ?_
  intro p e s m below meth c ls H locs C0 C1 hr hlocks hnm hsz hl hI
  subst hsz
  have hl : lv_has ls 1 [(0, .ref (b 370))] := hl
  unfold F_J4_length_8abf5_t at hf
  refine lv_aload_n C0.1 C0.2.1 dJ4_length_8abf5_0 rfl (lv_at hl 0 rfl) ?_
  obtain ⟨r_2, h_1, hf⟩ := ob_some hf
  refine k_i C1 hI (q_SU C0 C1 hI 370 (c_J5_length_8abf5_t l g X r b H.size n M h_1) w_1225 w_2170 w_387 w_1226 w_126 w_1227 ⟨rfl, rfl⟩ ⟨by decide, hd_J5_length_8abf5.2.2⟩ ⟨Nat.le_of_ble_eq_true rfl, Nat.le_of_ble_eq_true rfl⟩ (kdlt13 (rfl : kdI 370 = 13)) (shI_13 (rfl : kdI 370 = 13) _) rfl rfl hl.1 rfl (Nat.le_of_ble_eq_true rfl) dJ4_length_8abf5_1 ⟨Nat.le_of_ble_eq_true rfl, Nat.le_of_ble_eq_true rfl⟩) (fun H locs hI => ?_)
  exact ee_i C0 hI hr hlocks hf dJ4_length_8abf5_4

def F_J4_length_8abf5_l (n : Nat) (M : Mem) : Option Int32 :=
  ob (F_J5_length_8abf5_l n M) (fun r_2 => some r_2)
set_option maxHeartbeats 4000000 in
set_option maxRecDepth 100000 in
theorem c_J4_length_8abf5_l (l : Launch) (g : GG) (X : va_W) (r : Nat → Nat) (b : Nat → Nat) (sz n : Nat) (M : Mem) {r0 : Int32} (hf : F_J4_length_8abf5_l n M = some r0) : Met l yJ4_length_8abf5 (.code yJ4_length_8abf5 cJ4_length_8abf5 1 (some .int) :: LWg) (rmD 1 0 0) (va_Pc [.ref (b 371)] (PreP g (xb g r M ++ X) 372 (shI g r b) b sz M)) (Qi g (xb g r M ++ X) 372 (shI g r b) b sz r0 M) 0 0 (AA (xb g r M ++ X) b 372 sz) := by
  refine met_go (by decide +kernel) rfl (Nat.le_of_ble_eq_true rfl) ?_
  intro p e s m below meth c ls H locs C0 C1 hr hlocks hnm hsz hl hI
  subst hsz
  have hl : lv_has ls 1 [(0, .ref (b 371))] := hl
  unfold F_J4_length_8abf5_l at hf
  refine lv_aload_n C0.1 C0.2.1 dJ4_length_8abf5_0 rfl (lv_at hl 0 rfl) ?_
  obtain ⟨r_2, h_1, hf⟩ := ob_some hf
  refine k_i C1 hI (q_SU C0 C1 hI 371 (c_J5_length_8abf5_l l g X r b H.size n M h_1) w_1225 w_2170 w_387 w_1226 w_126 w_1227 ⟨rfl, rfl⟩ ⟨by decide, hd_J5_length_8abf5.2.2⟩ ⟨Nat.le_of_ble_eq_true rfl, Nat.le_of_ble_eq_true rfl⟩ (kdlt13 (rfl : kdI 371 = 13)) (shI_13 (rfl : kdI 371 = 13) _) rfl rfl hl.1 rfl (Nat.le_of_ble_eq_true rfl) dJ4_length_8abf5_1 ⟨Nat.le_of_ble_eq_true rfl, Nat.le_of_ble_eq_true rfl⟩) (fun H locs hI => ?_)
  exact ee_i C0 hI hr hlocks hf dJ4_length_8abf5_4

def F_J5_isLatin1_aae02_t (n : Nat) (M : Mem) : Option Int32 :=
  (if (1 : Int32) = 0 then some 0 else (if (M 370 1) = 0 then some 1 else some 0))
theorem hd_J5_isLatin1_aae02 : yJ5_isLatin1_aae02.cls ≠ "java/lang/invoke/MethodHandle" ∧ yJ5_isLatin1_aae02.cls ≠ "java/lang/invoke/VarHandle" ∧ (parseMethodDescriptor yJ5_isLatin1_aae02.desc).map (fun d => d.parameters.length) = some 0 := ⟨by decide +kernel, by decide +kernel, by decide +kernel⟩
set_option maxHeartbeats 4000000 in
set_option maxRecDepth 100000 in
theorem c_J5_isLatin1_aae02_t (l : Launch) (g : GG) (X : va_W) (r : Nat → Nat) (b : Nat → Nat) (sz n : Nat) (M : Mem) {r0 : Int32} (hf : F_J5_isLatin1_aae02_t n M = some r0) : Met l yJ5_isLatin1_aae02 (.code yJ5_isLatin1_aae02 cJ5_isLatin1_aae02 1 (some .boolean) :: LWg) (rmD 0 0 0) (va_Pc [.ref (b 370)] (PreP g (xb g r M ++ X) 372 (shI g r b) b sz M)) (Qi g (xb g r M ++ X) 372 (shI g r b) b sz r0 M) 0 0 (AA (xb g r M ++ X) b 372 sz) := by
  refine met_go (by decide +kernel) rfl (Nat.le_of_ble_eq_true rfl) ?_
  intro p e s m below meth c ls H locs C0 C1 hr hlocks hnm hsz hl hI
  subst hsz
  have hl : lv_has ls 1 [(0, .ref (b 370))] := hl
  unfold F_J5_isLatin1_aae02_t at hf
  refine r_cs C0 C1 hI w_365 dJ5_isLatin1_aae02_0 ?_
  refine lv_if_eq (tgt := 17) C0.1 C0.2.1 dJ5_isLatin1_aae02_3 (by decide) (fun c_1 => ?_) (fun c_1 => ?_)
  · have hf := (if_pos c_1).symm.trans hf
    refine lv_iconst (v := 0) C0.1 C0.2.1 dJ5_isLatin1_aae02_17 (by decide) ?_
    exact ee_z C0 hI hr hlocks rfl hf dJ5_isLatin1_aae02_18
  · have hf := (if_neg c_1).symm.trans hf
    refine lv_aload_n C0.1 C0.2.1 dJ5_isLatin1_aae02_6 rfl (lv_at hl 0 rfl) ?_
    refine r_getA (C := RJ4) (T := TJ4) (N9 := 4) (ci := 1) C0 C1 hI iJ4 rfl 370 1 (kdlt13 (rfl : kdI 370 = 13)) (by decide) (shI_13 (rfl : kdI 370 = 13) _) rfl w_375 dJ5_isLatin1_aae02_7 ?_
    refine lv_if_ne (tgt := 17) C0.1 C0.2.1 dJ5_isLatin1_aae02_10 (by decide) (fun c_2 => ?_) (fun c_2 => ?_)
    · have hf := (if_neg c_2).symm.trans hf
      refine lv_iconst (v := 0) C0.1 C0.2.1 dJ5_isLatin1_aae02_17 (by decide) ?_
      exact ee_z C0 hI hr hlocks rfl hf dJ5_isLatin1_aae02_18
    · have hf := (if_pos c_2).symm.trans hf
      refine lv_iconst (v := 1) C0.1 C0.2.1 dJ5_isLatin1_aae02_13 (by decide) ?_
      refine lv_goto (tgt := 18) C0.1 C0.2.1 dJ5_isLatin1_aae02_14 (by decide) ?_
      exact ee_z C0 hI hr hlocks rfl hf dJ5_isLatin1_aae02_18

def F_J5_isLatin1_aae02_l (n : Nat) (M : Mem) : Option Int32 :=
  (if (1 : Int32) = 0 then some 0 else (if (M 371 1) = 0 then some 1 else some 0))
set_option maxHeartbeats 4000000 in
set_option maxRecDepth 100000 in
theorem c_J5_isLatin1_aae02_l (l : Launch) (g : GG) (X : va_W) (r : Nat → Nat) (b : Nat → Nat) (sz n : Nat) (M : Mem) {r0 : Int32} (hf : F_J5_isLatin1_aae02_l n M = some r0) : Met l yJ5_isLatin1_aae02 (.code yJ5_isLatin1_aae02 cJ5_isLatin1_aae02 1 (some .boolean) :: LWg) (rmD 0 0 0) (va_Pc [.ref (b 371)] (PreP g (xb g r M ++ X) 372 (shI g r b) b sz M)) (Qi g (xb g r M ++ X) 372 (shI g r b) b sz r0 M) 0 0 (AA (xb g r M ++ X) b 372 sz) := by
  refine met_go (by decide +kernel) rfl (Nat.le_of_ble_eq_true rfl) ?_
  intro p e s m below meth c ls H locs C0 C1 hr hlocks hnm hsz hl hI
  subst hsz
  have hl : lv_has ls 1 [(0, .ref (b 371))] := hl
  unfold F_J5_isLatin1_aae02_l at hf
  refine r_cs C0 C1 hI w_365 dJ5_isLatin1_aae02_0 ?_
  refine lv_if_eq (tgt := 17) C0.1 C0.2.1 dJ5_isLatin1_aae02_3 (by decide) (fun c_1 => ?_) (fun c_1 => ?_)
  · have hf := (if_pos c_1).symm.trans hf
    refine lv_iconst (v := 0) C0.1 C0.2.1 dJ5_isLatin1_aae02_17 (by decide) ?_
    exact ee_z C0 hI hr hlocks rfl hf dJ5_isLatin1_aae02_18
  · have hf := (if_neg c_1).symm.trans hf
    refine lv_aload_n C0.1 C0.2.1 dJ5_isLatin1_aae02_6 rfl (lv_at hl 0 rfl) ?_
    refine r_getA (C := RJ4) (T := TJ4) (N9 := 4) (ci := 1) C0 C1 hI iJ4 rfl 371 1 (kdlt13 (rfl : kdI 371 = 13)) (by decide) (shI_13 (rfl : kdI 371 = 13) _) rfl w_375 dJ5_isLatin1_aae02_7 ?_
    refine lv_if_ne (tgt := 17) C0.1 C0.2.1 dJ5_isLatin1_aae02_10 (by decide) (fun c_2 => ?_) (fun c_2 => ?_)
    · have hf := (if_neg c_2).symm.trans hf
      refine lv_iconst (v := 0) C0.1 C0.2.1 dJ5_isLatin1_aae02_17 (by decide) ?_
      exact ee_z C0 hI hr hlocks rfl hf dJ5_isLatin1_aae02_18
    · have hf := (if_pos c_2).symm.trans hf
      refine lv_iconst (v := 1) C0.1 C0.2.1 dJ5_isLatin1_aae02_13 (by decide) ?_
      refine lv_goto (tgt := 18) C0.1 C0.2.1 dJ5_isLatin1_aae02_14 (by decide) ?_
      exact ee_z C0 hI hr hlocks rfl hf dJ5_isLatin1_aae02_18
