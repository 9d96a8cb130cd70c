def isC (x : Int32) : Bool := decide ((x.toUInt32 % 65536).toInt32 = x)
theorem isC_n {x : Int32} (h : isC x = true) : narrow .char (.int x) = .int x := by
  have h2 : (x.toUInt32 % 65536).toInt32 = x := of_decide_eq_true (p := (x.toUInt32 % 65536).toInt32 = x) h
  have h3 : narrow .char (.int (x.toUInt32 % 65536).toInt32) = .int (x.toUInt32 % 65536).toInt32 := pk_nc _
  rw [h2] at h3
  exact h3
section SBCALLS
variable {p : Program} {l : Launch} {e : Env} {R : Room} {s : State} {m : MethodId} {args : Array Value} {below : List Frame} {meth : Method} {c : Code} {H : Heap} {locs : List Loc} {cells slots : Nat} {Q : State → Prop}
variable {cc : ByteArray} {nL : Nat} {own : String} {pc : Nat} {ls : Array Slot} {rest st0 : List Value} {g : GG} {X : va_W} {N : Nat} {sh : Shp} {b : Nat → Nat} {M : Mem}
variable {y : MethodName} {bytes : ByteArray} {maxL n mc ms index : Nat} {ret : Option FieldType} {rm : Room} {As : List Value} {Qc : Array Value → State → Outcome → State → Prop} {free : Addr → Prop}
theorem xb_0 {r : Nat → Nat} : (xb g r M ++ X)[0]? = some (r 370, .inl (g.2.1 4, ix (M 374 0), .inl (M 372))) := by rw [xb_cons, List.getElem?_cons_zero]
theorem xb_1 {r : Nat → Nat} : (xb g r M ++ X)[1]? = some (r 371, .inl (g.2.1 4, ix (M 374 1), .inl (M 373))) := by rw [xb_cons, List.getElem?_cons_succ, List.getElem?_cons_zero]
theorem r_cs (C0 : CallFix p m c cc nL s args LWg own) (C1 : CX g X N sh b s) (hI : PI g X N sh b s M H locs) (hw : (.fieldLink own index RJ0 "COMPACT_STRINGS" "Z") ∈ LWg) (hdg : decode cc pc = .ok (.getstatic index, 3))
    (kk : W p l e R s m args below meth c H locs cells slots Q (F0 m (pc + 3) ls (.int 1 :: rest))) : W p l e R s m args below meth c H locs cells slots Q (F0 m pc ls rest) :=
  va_gets (C := RJ0) (n := "COMPACT_STRINGS") C0.1 C0.2.1 C1.2.2.1.2.2.2.2.2.2.2.2.2.2.2.2.1 hI.2 C0.2.2.2.1 (C0.2.2.2.2 _ hw) (fun _ h => h) hdg kk
theorem q_U (C0 : CallFix p m c cc nL s args LWg own) (C1 : CX g X N sh b s) (hI : PI g X N sh b s M H locs) (k : Nat) (hM : Met l y (.code y bytes maxL ret :: LWg) rm (va_Pc (.ref (b k) :: As) (PreP g X N sh b H.size M)) Qc mc ms free) (C : String) (h1 : (.methodLink own index y) ∈ LWg) (h0 : (.sameMethod y.cls y.cls y.name y.desc) ∈ LWg) (h3 : (.selects C y y) ∈ LWg) (h2 : (.instanceMethod y) ∈ LWg) (h4 : (.initialized y.cls) ∈ LWg) (h5 : (.code y bytes maxL ret) ∈ LWg)
    (hr : rm.cells = mc ∧ rm.slots = ms) (hd : y.cls ≠ "java/lang/invoke/MethodHandle" ∧ y.cls ≠ "java/lang/invoke/VarHandle" ∧ (parseMethodDescriptor y.desc).map (fun d => d.parameters.length) = some n) (hR : rm.frames + 1 ≤ R.frames ∧ 8 + (maxL + 11) + rm.locals ≤ R.locals) {ci : Nat} {fs : List Value} {r : vw_C} (hk : k < N) (hs : sh k (M k) = .inr (ci, fs)) (hc : vwCl[ci]? = some r) (hrc : r.1 = C)
    (hn : As.length = n) (hls : ls.size = nL) (hst : st0 = As.reverse ++ .ref (b k) :: rest) (hW : (rest.map fun v => v.category).sum ≤ 8) (hdg : decode cc pc = .ok (.invokevirtual index, 3)) (hf : cells + mc ≤ R.cells ∧ slots + ms ≤ R.slots) :
    va_Run p l e R s m args below meth c H locs cells slots mc ms (F0 m pc ls st0) rest (Qc (Value.ref (b k) :: As).toArray) free :=
  va_runU (C := C) (owner := y.cls) (x := y) C0 hM (va_cwU n C0.2.2.2.2 (good_c h1 (good_c h0 (good_c h3 (good_c h2 (good_c h4 (good_all h5)))))) rfl hr.1 hr.2 rfl hd hR) ⟨PreP.blind, by rw [← hrc]; exact r_recv C1 hI hk hs hc, fun U hU hW => ⟨rfl, PreP.call C1 hI hU hW⟩⟩ rfl hn hls hst (lv_room hW) hdg hf
theorem q_SU (C0 : CallFix p m c cc nL s args LWg own) (C1 : CX g X N sh b s) (hI : PI g X N sh b s M H locs) (k : Nat) (hM : Met l y (.code y bytes maxL ret :: LWg) rm (va_Pc (.ref (b k) :: As) (PreP g X N sh b H.size M)) Qc mc ms free) (h1 : (.methodLink own index y) ∈ LWg) (h0 : (.sameMethod y.cls y.cls y.name y.desc) ∈ LWg) (h3 : (.superclass own y.cls) ∈ LWg) (h2 : (.instanceMethod y) ∈ LWg) (h4 : (.initialized y.cls) ∈ LWg) (h5 : (.code y bytes maxL ret) ∈ LWg)
    (hr : rm.cells = mc ∧ rm.slots = ms) (hd : y.name ≠ "<init>" ∧ (parseMethodDescriptor y.desc).map (fun d => d.parameters.length) = some n) (hR : rm.frames + 1 ≤ R.frames ∧ 8 + (maxL + 11) + rm.locals ≤ R.locals) {ci : Nat} {fs : List Value} {r : vw_C} (hk : k < N) (hs : sh k (M k) = .inr (ci, fs)) (hc : vwCl[ci]? = some r)
    (hn : As.length = n) (hls : ls.size = nL) (hst : st0 = As.reverse ++ .ref (b k) :: rest) (hW : (rest.map fun v => v.category).sum ≤ 8) (hdg : decode cc pc = .ok (.invokespecial index, 3)) (hf : cells + mc ≤ R.cells ∧ slots + ms ≤ R.slots) :
    va_Run p l e R s m args below meth c H locs cells slots mc ms (F0 m pc ls st0) rest (Qc (Value.ref (b k) :: As).toArray) free :=
  va_runSU (C := r.1) (C1.1.1 ci r hc).2 C0 hM (va_cwSU n C0.2.2.2.2 (good_c h1 (good_c h0 (good_c h3 (good_c h2 (good_c h4 (good_all h5)))))) rfl hr.1 hr.2 hd hR) ⟨PreP.blind, r_recv C1 hI hk hs hc, fun U hU hW => ⟨rfl, PreP.call C1 hI hU hW⟩⟩ rfl hn hls hst (lv_room hW) hdg hf
end SBCALLS
def F_J3_checkIndex_8e157 (n : Nat) (x0 : Int32) (x1 : Int32) (M : Mem) : Option Int32 :=
  (if x0 < 0 then none else (if x0 < x1 then some x0 else none))
theorem hd_J3_checkIndex_8e157 : yJ3_checkIndex_8e157.cls ≠ "java/lang/invoke/MethodHandle" ∧ yJ3_checkIndex_8e157.cls ≠ "java/lang/invoke/VarHandle" ∧ (parseMethodDescriptor yJ3_checkIndex_8e157.desc).map (fun d => d.parameters.length) = some 3 := ⟨by decide +kernel, by decide +kernel, by decide +kernel⟩
set_option maxHeartbeats 4000000 in
set_option maxRecDepth 100000 in
theorem c_J3_checkIndex_8e157 (l : Launch) (g : GG) (X : va_W) (r : Nat → Nat) (b : Nat → Nat) (sz n : Nat) (M : Mem) (x0 : Int32) (x1 : Int32) {r0 : Int32} (hf : F_J3_checkIndex_8e157 n x0 x1 M = some r0) : Met l yJ3_checkIndex_8e157 (.code yJ3_checkIndex_8e157 cJ3_checkIndex_8e157 3 (some .int) :: LWg) (rmD 0 0 0) (va_Pc [.int x0, .int x1, .null] (PreP g X 372 (shI g r b) b sz M)) (Qi g X 372 (shI g r b) b sz r0 M) 0 0 (AA X b 372 sz) := by
  refine met_go (by decide +kernel) rfl (Nat.le_of_ble_eq_true rfl) ?_
  intro p e s m below meth c ls H locs C0 C1 hr hlocks hnm hsz hl hI
  subst hsz
  have hl : lv_has ls 3 [(0, .int x0), (1, .int x1), (2, .null)] := hl
  unfold F_J3_checkIndex_8e157 at hf
  refine lv_iload_n C0.1 C0.2.1 dJ3_checkIndex_8e157_0 rfl (lv_at hl 0 rfl) ?_
  refine lv_if_lt (tgt := 9) C0.1 C0.2.1 dJ3_checkIndex_8e157_1 (by decide) (fun c_1 => ?_) (fun c_1 => ?_)
  · have hf := (if_pos c_1).symm.trans hf
    exact nomatch hf
  · have hf := (if_neg c_1).symm.trans hf
    refine lv_iload_n C0.1 C0.2.1 dJ3_checkIndex_8e157_4 rfl (lv_at hl 0 rfl) ?_
    refine lv_iload_n C0.1 C0.2.1 dJ3_checkIndex_8e157_5 rfl (lv_at hl 1 rfl) ?_
    refine lv_icmp_lt (tgt := 16) C0.1 C0.2.1 dJ3_checkIndex_8e157_6 (by decide) (fun c_2 => ?_) (fun c_2 => ?_)
    · have hf := (if_pos c_2).symm.trans hf
      refine lv_iload_n C0.1 C0.2.1 dJ3_checkIndex_8e157_16 rfl (lv_at hl 0 rfl) ?_
      exact ee_i C0 hI hr hlocks hf dJ3_checkIndex_8e157_17
    · have hf := (if_neg c_2).symm.trans hf
      exact nomatch hf


set_option maxHeartbeats 4000000 in
set_option maxRecDepth 100000 in
theorem c_J3_checkIndex_8e157_t (l : Launch) (g : GG) (X : va_W) (r : Nat → Nat) (b : Nat → Nat) (sz n : Nat) (M : Mem) (t9 : Nat) (x0 : Int32) (x1 : Int32) {r0 : Int32} (hf : F_J3_checkIndex_8e157 n x0 x1 M = some r0) : Met l yJ3_checkIndex_8e157 (.code yJ3_checkIndex_8e157 cJ3_checkIndex_8e157 3 (some .int) :: LWg) (rmD 0 0 0) (va_Pc [.int x0, .int x1, .ref t9] (PreP g X 372 (shI g r b) b sz M)) (Qi g X 372 (shI g r b) b sz r0 M) 0 0 (AA X b 372 sz) := by
  refine met_go (by decide +kernel) rfl (Nat.le_of_ble_eq_true rfl) ?_
  intro p e s m below meth c ls H locs C0 C1 hr hlocks hnm hsz hl hI
  subst hsz
  have hl : lv_has ls 3 [(0, .int x0), (1, .int x1), (2, .ref t9)] := hl
  unfold F_J3_checkIndex_8e157 at hf
  refine lv_iload_n C0.1 C0.2.1 dJ3_checkIndex_8e157_0 rfl (lv_at hl 0 rfl) ?_
  refine lv_if_lt (tgt := 9) C0.1 C0.2.1 dJ3_checkIndex_8e157_1 (by decide) (fun c_1 => ?_) (fun c_1 => ?_)
  · have hf := (if_pos c_1).symm.trans hf
    exact nomatch hf
  · have hf := (if_neg c_1).symm.trans hf
    refine lv_iload_n C0.1 C0.2.1 dJ3_checkIndex_8e157_4 rfl (lv_at hl 0 rfl) ?_
    refine lv_iload_n C0.1 C0.2.1 dJ3_checkIndex_8e157_5 rfl (lv_at hl 1 rfl) ?_
    refine lv_icmp_lt (tgt := 16) C0.1 C0.2.1 dJ3_checkIndex_8e157_6 (by decide) (fun c_2 => ?_) (fun c_2 => ?_)
    · have hf := (if_pos c_2).symm.trans hf
      refine lv_iload_n C0.1 C0.2.1 dJ3_checkIndex_8e157_16 rfl (lv_at hl 0 rfl) ?_
      exact ee_i C0 hI hr hlocks hf dJ3_checkIndex_8e157_17
    · have hf := (if_neg c_2).symm.trans hf
      exact nomatch hf

def F_J0_checkIndex_df160 (n : Nat) (x0 : Int32) (x1 : Int32) (M : Mem) : Option Unit :=
  ob (F_J3_checkIndex_8e157 n x0 x1 M) (fun r_2 => some ())
theorem hd_J0_checkIndex_df160 : yJ0_checkIndex_df160.cls ≠ "java/lang/invoke/MethodHandle" ∧ yJ0_checkIndex_df160.cls ≠ "java/lang/invoke/VarHandle" ∧ (parseMethodDescriptor yJ0_checkIndex_df160.desc).map (fun d => d.parameters.length) = some 2 := ⟨by decide +kernel, by decide +kernel, by decide +kernel⟩
set_option maxHeartbeats 4000000 in
set_option maxRecDepth 100000 in
theorem c_J0_checkIndex_df160 (l : Launch) (g : GG) (X : va_W) (r : Nat → Nat) (b : Nat → Nat) (sz n : Nat) (M : Mem) (x0 : Int32) (x1 : Int32)  (hf : F_J0_checkIndex_df160 n x0 x1 M = some ()) : Met l yJ0_checkIndex_df160 (.code yJ0_checkIndex_df160 cJ0_checkIndex_df160 2 none :: LWg) (rmD 1 0 0) (va_Pc [.int x0, .int x1] (PreP g X 372 (shI g r b) b sz M)) (Qv g X 372 (shI g r b) b sz M) 0 0 (AA X b 372 sz) := by
  refine met_go (by decide +kernel) rfl (Nat.le_of_ble_eq_true rfl) ?_
  intro p e s m below meth c ls H locs C0 C1 hr hlocks hnm hsz hl hI
  subst hsz
  have hl : lv_has ls 2 [(0, .int x0), (1, .int x1)] := hl
  unfold F_J0_checkIndex_df160 at hf
  refine lv_iload_n C0.1 C0.2.1 dJ0_checkIndex_df160_0 rfl (lv_at hl 0 rfl) ?_
  refine lv_iload_n C0.1 C0.2.1 dJ0_checkIndex_df160_1 rfl (lv_at hl 1 rfl) ?_
  rcases C1.2.2.1.2.2.2.2.2.2.2.2.2.2.2.2.2.2.2.2.2.1 with hz | ⟨t9, hz⟩
  · refine va_gets (C := "jdk/internal/util/Preconditions") (n := "SIOOBE_FORMATTER") C0.1 C0.2.1 hz hI.2 C0.2.2.2.1 (C0.2.2.2.2 _ w_1034) (fun _ h => h) dJ0_checkIndex_df160_2 ?_
    obtain ⟨r_2, h_1, hf⟩ := ob_some hf
    refine k_i C1 hI (q_S C0 C1 hI (c_J3_checkIndex_8e157 l g X r b H.size n M x0 x1 h_1) w_1057 w_1058 w_91 w_1059 ⟨rfl, rfl⟩ hd_J3_checkIndex_8e157 ⟨Nat.le_of_ble_eq_true rfl, Nat.le_of_ble_eq_true rfl⟩ rfl hl.1 rfl (Nat.le_of_ble_eq_true rfl) dJ0_checkIndex_df160_5 ⟨Nat.le_of_ble_eq_true rfl, Nat.le_of_ble_eq_true rfl⟩) (fun H locs hI => ?_)
    refine lv_pop C0.1 C0.2.1 dJ0_checkIndex_df160_8 rfl ?_
    exact ee_v C0 hI hr hlocks hf dJ0_checkIndex_df160_9
  · refine va_gets (C := "jdk/internal/util/Preconditions") (n := "SIOOBE_FORMATTER") C0.1 C0.2.1 hz hI.2 C0.2.2.2.1 (C0.2.2.2.2 _ w_1034) (fun _ h => h) dJ0_checkIndex_df160_2 ?_
    obtain ⟨r_2, h_1, hf⟩ := ob_some hf
    refine k_i C1 hI (q_S C0 C1 hI (c_J3_checkIndex_8e157_t l g X r b H.size n M t9 x0 x1 h_1) w_1057 w_1058 w_91 w_1059 ⟨rfl, rfl⟩ hd_J3_checkIndex_8e157 ⟨Nat.le_of_ble_eq_true rfl, Nat.le_of_ble_eq_true rfl⟩ rfl hl.1 rfl (Nat.le_of_ble_eq_true rfl) dJ0_checkIndex_df160_5 ⟨Nat.le_of_ble_eq_true rfl, Nat.le_of_ble_eq_true rfl⟩) (fun H locs hI => ?_)
    refine lv_pop C0.1 C0.2.1 dJ0_checkIndex_df160_8 rfl ?_
    exact ee_v C0 hI hr hlocks hf dJ0_checkIndex_df160_9

def F_J5_length_8abf5_t (n : Nat) (T : Mem) (M : Mem) : Option Int32 :=
  some (M 370 3)
theorem hd_J5_length_8abf5 : yJ5_length_8abf5.cls ≠ "java/lang/invoke/MethodHandle" ∧ yJ5_length_8abf5.cls ≠ "java/lang/invoke/VarHandle" ∧ (parseMethodDescriptor yJ5_length_8abf5.desc).map (fun d => d.parameters.length) = some 0 := ⟨by decide +kernel, by decide +kernel, by decide +kernel⟩
set_option maxHeartbeats 4000000 in
set_option maxRecDepth 100000 in
theorem c_J5_length_8abf5_t (l : Launch) (g : GG) (X : va_W) (r : Nat → Nat) (b : Nat → Nat) (sz n : Nat) (M : Mem) (T : Mem) {r0 : Int32} (hf : F_J5_length_8abf5_t n T M = some r0) : Met l yJ5_length_8abf5 (.code yJ5_length_8abf5 cJ5_length_8abf5 1 (some .int) :: LWg) (rmD 0 0 0) (va_Pc [.ref (b 370)] (PreP g (xb g r T ++ X) 372 (shI g r b) b sz M)) (Qi g (xb g r T ++ X) 372 (shI g r b) b sz r0 M) 0 0 (AA (xb g r T ++ X) b 372 sz) := by
  refine met_go (by decide +kernel) rfl (Nat.le_of_ble_eq_true rfl) ?_
  intro p e s m below meth c ls H locs C0 C1 hr hlocks hnm hsz hl hI
  subst hsz
  have hl : lv_has ls 1 [(0, .ref (b 370))] := hl
  unfold F_J5_length_8abf5_t at hf
  refine lv_aload_n C0.1 C0.2.1 dJ5_length_8abf5_0 rfl (lv_at hl 0 rfl) ?_
  refine r_getA (C := RJ4) (T := TJ4) (N9 := 4) (ci := 1) C0 C1 hI iJ4 rfl 370 3 (kdlt13 (rfl : kdI 370 = 13)) (by decide) (shI_13 (rfl : kdI 370 = 13) _) rfl w_331 dJ5_length_8abf5_1 ?_
  exact ee_i C0 hI hr hlocks hf dJ5_length_8abf5_4

def F_J5_length_8abf5_l (n : Nat) (T : Mem) (M : Mem) : Option Int32 :=
  some (M 371 3)
set_option maxHeartbeats 4000000 in
set_option maxRecDepth 100000 in
theorem c_J5_length_8abf5_l (l : Launch) (g : GG) (X : va_W) (r : Nat → Nat) (b : Nat → Nat) (sz n : Nat) (M : Mem) (T : Mem) {r0 : Int32} (hf : F_J5_length_8abf5_l n T M = some r0) : Met l yJ5_length_8abf5 (.code yJ5_length_8abf5 cJ5_length_8abf5 1 (some .int) :: LWg) (rmD 0 0 0) (va_Pc [.ref (b 371)] (PreP g (xb g r T ++ X) 372 (shI g r b) b sz M)) (Qi g (xb g r T ++ X) 372 (shI g r b) b sz r0 M) 0 0 (AA (xb g r T ++ X) b 372 sz) := by
  refine met_go (by decide +kernel) rfl (Nat.le_of_ble_eq_true rfl) ?_
  intro p e s m below meth c ls H locs C0 C1 hr hlocks hnm hsz hl hI
  subst hsz
  have hl : lv_has ls 1 [(0, .ref (b 371))] := hl
  unfold F_J5_length_8abf5_l at hf
  refine lv_aload_n C0.1 C0.2.1 dJ5_length_8abf5_0 rfl (lv_at hl 0 rfl) ?_
  refine r_getA (C := RJ4) (T := TJ4) (N9 := 4) (ci := 1) C0 C1 hI iJ4 rfl 371 3 (kdlt13 (rfl : kdI 371 = 13)) (by decide) (shI_13 (rfl : kdI 371 = 13) _) rfl w_331 dJ5_length_8abf5_1 ?_
  exact ee_i C0 hI hr hlocks hf dJ5_length_8abf5_4

def F_J4_length_8abf5_t (n : Nat) (T : Mem) (M : Mem) : Option Int32 :=
  ob (F_J5_length_8abf5_t n T M) (fun r_2 => some r_2)
theorem hd_J4_length_8abf5 : yJ4_length_8abf5.cls ≠ "java/lang/invoke/MethodHandle" ∧ yJ4_length_8abf5.cls ≠ "java/lang/invoke/VarHandle" ∧ (parseMethodDescriptor yJ4_length_8abf5.desc).map (fun d => d.parameters.length) = some 0 := ⟨by decide +kernel, by decide +kernel, by decide +kernel⟩
set_option maxHeartbeats 4000000 in
set_option maxRecDepth 100000 in
theorem c_J4_length_8abf5_t (l : Launch) (g : GG) (X : va_W) (r : Nat → Nat) (b : Nat → Nat) (sz n : Nat) (M : Mem) (T : Mem) {r0 : Int32} (hf : F_J4_length_8abf5_t n T M = some r0) : Met l yJ4_length_8abf5 (.code yJ4_length_8abf5 cJ4_length_8abf5 1 (some .int) :: LWg) (rmD 1 0 0) (va_Pc [.ref (b 370)] (PreP g (xb g r T ++ X) 372 (shI g r b) b sz M)) (Qi g (xb g r T ++ X) 372 (shI g r b) b sz r0 M) 0 0 (AA (xb g r T ++ X) b 372 sz) := by
  refine met_go (by decide +kernel) rfl (Nat.le_of_ble_eq_true rfl) ?_
  intro p e s m below meth c ls H locs C0 C1 hr hlocks hnm hsz hl hI
  subst hsz
  have hl : lv_has ls 1 [(0, .ref (b 370))] := hl
  unfold F_J4_length_8abf5_t at hf
  refine lv_aload_n C0.1 C0.2.1 dJ4_length_8abf5_0 rfl (lv_at hl 0 rfl) ?_
  obtain ⟨r_2, h_1, hf⟩ := ob_some hf
  refine k_i C1 hI (q_SU C0 C1 hI 370 (c_J5_length_8abf5_t l g X r b H.size n M T h_1) w_963 w_1799 w_340 w_964 w_80 w_965 ⟨rfl, rfl⟩ ⟨by decide, hd_J5_length_8abf5.2.2⟩ ⟨Nat.le_of_ble_eq_true rfl, Nat.le_of_ble_eq_true rfl⟩ (kdlt13 (rfl : kdI 370 = 13)) (shI_13 (rfl : kdI 370 = 13) _) rfl rfl hl.1 rfl (Nat.le_of_ble_eq_true rfl) dJ4_length_8abf5_1 ⟨Nat.le_of_ble_eq_true rfl, Nat.le_of_ble_eq_true rfl⟩) (fun H locs hI => ?_)
  exact ee_i C0 hI hr hlocks hf dJ4_length_8abf5_4

def F_J4_length_8abf5_l (n : Nat) (T : Mem) (M : Mem) : Option Int32 :=
  ob (F_J5_length_8abf5_l n T M) (fun r_2 => some r_2)
set_option maxHeartbeats 4000000 in
set_option maxRecDepth 100000 in
theorem c_J4_length_8abf5_l (l : Launch) (g : GG) (X : va_W) (r : Nat → Nat) (b : Nat → Nat) (sz n : Nat) (M : Mem) (T : Mem) {r0 : Int32} (hf : F_J4_length_8abf5_l n T M = some r0) : Met l yJ4_length_8abf5 (.code yJ4_length_8abf5 cJ4_length_8abf5 1 (some .int) :: LWg) (rmD 1 0 0) (va_Pc [.ref (b 371)] (PreP g (xb g r T ++ X) 372 (shI g r b) b sz M)) (Qi g (xb g r T ++ X) 372 (shI g r b) b sz r0 M) 0 0 (AA (xb g r T ++ X) b 372 sz) := by
  refine met_go (by decide +kernel) rfl (Nat.le_of_ble_eq_true rfl) ?_
  intro p e s m below meth c ls H locs C0 C1 hr hlocks hnm hsz hl hI
  subst hsz
  have hl : lv_has ls 1 [(0, .ref (b 371))] := hl
  unfold F_J4_length_8abf5_l at hf
  refine lv_aload_n C0.1 C0.2.1 dJ4_length_8abf5_0 rfl (lv_at hl 0 rfl) ?_
  obtain ⟨r_2, h_1, hf⟩ := ob_some hf
  refine k_i C1 hI (q_SU C0 C1 hI 371 (c_J5_length_8abf5_l l g X r b H.size n M T h_1) w_963 w_1799 w_340 w_964 w_80 w_965 ⟨rfl, rfl⟩ ⟨by decide, hd_J5_length_8abf5.2.2⟩ ⟨Nat.le_of_ble_eq_true rfl, Nat.le_of_ble_eq_true rfl⟩ (kdlt13 (rfl : kdI 371 = 13)) (shI_13 (rfl : kdI 371 = 13) _) rfl rfl hl.1 rfl (Nat.le_of_ble_eq_true rfl) dJ4_length_8abf5_1 ⟨Nat.le_of_ble_eq_true rfl, Nat.le_of_ble_eq_true rfl⟩) (fun H locs hI => ?_)
  exact ee_i C0 hI hr hlocks hf dJ4_length_8abf5_4

def F_J5_isLatin1_aae02_t (n : Nat) (T : Mem) (M : Mem) : Option Int32 :=
  (if (1 : Int32) = 0 then some 0 else (if (M 370 1) = 0 then some 1 else some 0))
theorem hd_J5_isLatin1_aae02 : yJ5_isLatin1_aae02.cls ≠ "java/lang/invoke/MethodHandle" ∧ yJ5_isLatin1_aae02.cls ≠ "java/lang/invoke/VarHandle" ∧ (parseMethodDescriptor yJ5_isLatin1_aae02.desc).map (fun d => d.parameters.length) = some 0 := ⟨by decide +kernel, by decide +kernel, by decide +kernel⟩
set_option maxHeartbeats 4000000 in
set_option maxRecDepth 100000 in
theorem c_J5_isLatin1_aae02_t (l : Launch) (g : GG) (X : va_W) (r : Nat → Nat) (b : Nat → Nat) (sz n : Nat) (M : Mem) (T : Mem) {r0 : Int32} (hf : F_J5_isLatin1_aae02_t n T M = some r0) : Met l yJ5_isLatin1_aae02 (.code yJ5_isLatin1_aae02 cJ5_isLatin1_aae02 1 (some .boolean) :: LWg) (rmD 0 0 0) (va_Pc [.ref (b 370)] (PreP g (xb g r T ++ X) 372 (shI g r b) b sz M)) (Qi g (xb g r T ++ X) 372 (shI g r b) b sz r0 M) 0 0 (AA (xb g r T ++ X) b 372 sz) := by
  refine met_go (by decide +kernel) rfl (Nat.le_of_ble_eq_true rfl) ?_
  intro p e s m below meth c ls H locs C0 C1 hr hlocks hnm hsz hl hI
  subst hsz
  have hl : lv_has ls 1 [(0, .ref (b 370))] := hl
  unfold F_J5_isLatin1_aae02_t at hf
  refine r_cs C0 C1 hI w_318 dJ5_isLatin1_aae02_0 ?_
  refine lv_if_eq (tgt := 17) C0.1 C0.2.1 dJ5_isLatin1_aae02_3 (by decide) (fun c_1 => ?_) (fun c_1 => ?_)
  · have hf := (if_pos c_1).symm.trans hf
    refine lv_iconst (v := 0) C0.1 C0.2.1 dJ5_isLatin1_aae02_17 (by decide) ?_
    exact ee_z C0 hI hr hlocks rfl hf dJ5_isLatin1_aae02_18
  · have hf := (if_neg c_1).symm.trans hf
    refine lv_aload_n C0.1 C0.2.1 dJ5_isLatin1_aae02_6 rfl (lv_at hl 0 rfl) ?_
    refine r_getA (C := RJ4) (T := TJ4) (N9 := 4) (ci := 1) C0 C1 hI iJ4 rfl 370 1 (kdlt13 (rfl : kdI 370 = 13)) (by decide) (shI_13 (rfl : kdI 370 = 13) _) rfl w_328 dJ5_isLatin1_aae02_7 ?_
    refine lv_if_ne (tgt := 17) C0.1 C0.2.1 dJ5_isLatin1_aae02_10 (by decide) (fun c_2 => ?_) (fun c_2 => ?_)
    · have hf := (if_neg c_2).symm.trans hf
      refine lv_iconst (v := 0) C0.1 C0.2.1 dJ5_isLatin1_aae02_17 (by decide) ?_
      exact ee_z C0 hI hr hlocks rfl hf dJ5_isLatin1_aae02_18
    · have hf := (if_pos c_2).symm.trans hf
      refine lv_iconst (v := 1) C0.1 C0.2.1 dJ5_isLatin1_aae02_13 (by decide) ?_
      refine lv_goto (tgt := 18) C0.1 C0.2.1 dJ5_isLatin1_aae02_14 (by decide) ?_
      exact ee_z C0 hI hr hlocks rfl hf dJ5_isLatin1_aae02_18

def F_J5_isLatin1_aae02_l (n : Nat) (T : Mem) (M : Mem) : Option Int32 :=
  (if (1 : Int32) = 0 then some 0 else (if (M 371 1) = 0 then some 1 else some 0))
set_option maxHeartbeats 4000000 in
set_option maxRecDepth 100000 in
theorem c_J5_isLatin1_aae02_l (l : Launch) (g : GG) (X : va_W) (r : Nat → Nat) (b : Nat → Nat) (sz n : Nat) (M : Mem) (T : Mem) {r0 : Int32} (hf : F_J5_isLatin1_aae02_l n T M = some r0) : Met l yJ5_isLatin1_aae02 (.code yJ5_isLatin1_aae02 cJ5_isLatin1_aae02 1 (some .boolean) :: LWg) (rmD 0 0 0) (va_Pc [.ref (b 371)] (PreP g (xb g r T ++ X) 372 (shI g r b) b sz M)) (Qi g (xb g r T ++ X) 372 (shI g r b) b sz r0 M) 0 0 (AA (xb g r T ++ X) b 372 sz) := by
  refine met_go (by decide +kernel) rfl (Nat.le_of_ble_eq_true rfl) ?_
  intro p e s m below meth c ls H locs C0 C1 hr hlocks hnm hsz hl hI
  subst hsz
  have hl : lv_has ls 1 [(0, .ref (b 371))] := hl
  unfold F_J5_isLatin1_aae02_l at hf
  refine r_cs C0 C1 hI w_318 dJ5_isLatin1_aae02_0 ?_
  refine lv_if_eq (tgt := 17) C0.1 C0.2.1 dJ5_isLatin1_aae02_3 (by decide) (fun c_1 => ?_) (fun c_1 => ?_)
  · have hf := (if_pos c_1).symm.trans hf
    refine lv_iconst (v := 0) C0.1 C0.2.1 dJ5_isLatin1_aae02_17 (by decide) ?_
    exact ee_z C0 hI hr hlocks rfl hf dJ5_isLatin1_aae02_18
  · have hf := (if_neg c_1).symm.trans hf
    refine lv_aload_n C0.1 C0.2.1 dJ5_isLatin1_aae02_6 rfl (lv_at hl 0 rfl) ?_
    refine r_getA (C := RJ4) (T := TJ4) (N9 := 4) (ci := 1) C0 C1 hI iJ4 rfl 371 1 (kdlt13 (rfl : kdI 371 = 13)) (by decide) (shI_13 (rfl : kdI 371 = 13) _) rfl w_328 dJ5_isLatin1_aae02_7 ?_
    refine lv_if_ne (tgt := 17) C0.1 C0.2.1 dJ5_isLatin1_aae02_10 (by decide) (fun c_2 => ?_) (fun c_2 => ?_)
    · have hf := (if_neg c_2).symm.trans hf
      refine lv_iconst (v := 0) C0.1 C0.2.1 dJ5_isLatin1_aae02_17 (by decide) ?_
      exact ee_z C0 hI hr hlocks rfl hf dJ5_isLatin1_aae02_18
    · have hf := (if_pos c_2).symm.trans hf
      refine lv_iconst (v := 1) C0.1 C0.2.1 dJ5_isLatin1_aae02_13 (by decide) ?_
      refine lv_goto (tgt := 18) C0.1 C0.2.1 dJ5_isLatin1_aae02_14 (by decide) ?_
      exact ee_z C0 hI hr hlocks rfl hf dJ5_isLatin1_aae02_18

def F_J5_charAt_5068e_t (n : Nat) (T : Mem) (x1 : Int32) (M : Mem) : Option Int32 :=
  lt' (M 370 1) (fun x2_1 => lt' (if ((nI (ix (T 374 0))) >>> (x2_1 &&& 31)) < (M 370 3) then ((nI (ix (T 374 0))) >>> (x2_1 &&& 31)) else (M 370 3)) (fun x4_3 => ob (F_J0_checkIndex_df160 n x1 x4_3 M) (fun u_6 => (if x2_1 = 0 then chk (inb x1 (ix (T 374 0))) (some ((((T 372 (ix x1)) &&& 255).toUInt32 % 65536).toInt32)) else none))))
theorem hd_J5_charAt_5068e : yJ5_charAt_5068e.cls ≠ "java/lang/invoke/MethodHandle" ∧ yJ5_charAt_5068e.cls ≠ "java/lang/invoke/VarHandle" ∧ (parseMethodDescriptor yJ5_charAt_5068e.desc).map (fun d => d.parameters.length) = some 1 := ⟨by decide +kernel, by decide +kernel, by decide +kernel⟩
set_option maxHeartbeats 4000000 in
set_option maxRecDepth 100000 in
theorem c_J5_charAt_5068e_t (l : Launch) (g : GG) (X : va_W) (r : Nat → Nat) (b : Nat → Nat) (sz n : Nat) (M : Mem) (T : Mem) (x1 : Int32) {r0 : Int32} (hf : F_J5_charAt_5068e_t n T x1 M = some r0) : Met l yJ5_charAt_5068e (.code yJ5_charAt_5068e cJ5_charAt_5068e 5 (some .char) :: LWg) (rmD 2 0 0) (va_Pc [.ref (b 370), .int x1] (PreP g (xb g r T ++ X) 372 (shI g r b) b sz M)) (Qi g (xb g r T ++ X) 372 (shI g r b) b sz r0 M) 0 0 (AA (xb g r T ++ X) b 372 sz) := by
  refine met_go (by decide +kernel) rfl (Nat.le_of_ble_eq_true rfl) ?_
  intro p e s m below meth c ls H locs C0 C1 hr hlocks hnm hsz hl hI
  subst hsz
  have hl : lv_has ls 5 [(0, .ref (b 370)), (1, .int x1)] := hl
  unfold F_J5_charAt_5068e_t at hf
  refine lv_aload_n C0.1 C0.2.1 dJ5_charAt_5068e_0 rfl (lv_at hl 0 rfl) ?_
  refine r_getA (C := RJ4) (T := TJ4) (N9 := 4) (ci := 1) C0 C1 hI iJ4 rfl 370 1 (kdlt13 (rfl : kdI 370 = 13)) (by decide) (shI_13 (rfl : kdI 370 = 13) _) rfl w_328 dJ5_charAt_5068e_1 ?_
  refine lv_topi (fun x2_1 e_2 => ?_)
  have hf := lt_at e_2 hf
  refine lv_istore_n (lv' := [(2, .int x2_1), (0, .ref (b 370)), (1, .int x1)]) C0.1 C0.2.1 dJ5_charAt_5068e_4 rfl hl (by decide) rfl (fun ls hl => ?_)
  refine lv_aload_n C0.1 C0.2.1 dJ5_charAt_5068e_5 rfl (lv_at hl 1 rfl) ?_
  refine r_getA (C := RJ4) (T := TJ4) (N9 := 4) (ci := 1) C0 C1 hI iJ4 rfl 370 0 (kdlt13 (rfl : kdI 370 = 13)) (by decide) (shI_13 (rfl : kdI 370 = 13) _) rfl w_327 dJ5_charAt_5068e_6 ?_
  refine lv_astore_n (lv' := [(3, .ref (r 370)), (2, .int x2_1), (0, .ref (b 370)), (1, .int x1)]) C0.1 C0.2.1 dJ5_charAt_5068e_9 rfl hl (by decide) rfl (fun ls hl => ?_)
  refine lv_aload_n C0.1 C0.2.1 dJ5_charAt_5068e_10 rfl (lv_at hl 2 rfl) ?_
  refine r_getA (C := RJ4) (T := TJ4) (N9 := 4) (ci := 1) C0 C1 hI iJ4 rfl 370 3 (kdlt13 (rfl : kdI 370 = 13)) (by decide) (shI_13 (rfl : kdI 370 = 13) _) rfl w_331 dJ5_charAt_5068e_11 ?_
  refine lv_aload_n C0.1 C0.2.1 dJ5_charAt_5068e_14 rfl (lv_at hl 0 rfl) ?_
  refine x_alen C0 C1 hI 0 xb_0 dJ5_charAt_5068e_15 ?_
  refine lv_iload_n C0.1 C0.2.1 dJ5_charAt_5068e_16 rfl (lv_at hl 1 rfl) ?_
  refine lv_ishr C0.1 C0.2.1 dJ5_charAt_5068e_17 ?_
  refine r_mmin C0 hl.1 w_1124 (Nat.le_of_ble_eq_true rfl) (Nat.le_of_ble_eq_true rfl) (Nat.le_of_ble_eq_true rfl) (Nat.le_of_ble_eq_true rfl) dJ5_charAt_5068e_18 ?_
  refine lv_topi (fun x4_3 e_4 => ?_)
  have hf := lt_at e_4 hf
  refine lv_istore (lv' := [(4, .int x4_3), (3, .ref (r 370)), (2, .int x2_1), (0, .ref (b 370)), (1, .int x1)]) C0.1 C0.2.1 dJ5_charAt_5068e_21 hl (by decide) rfl (fun ls hl => ?_)
  refine lv_iload_n C0.1 C0.2.1 dJ5_charAt_5068e_23 rfl (lv_at hl 4 rfl) ?_
  refine lv_iload C0.1 C0.2.1 dJ5_charAt_5068e_24 (lv_at hl 0 rfl) ?_
  obtain ⟨u_6, h_5, hf⟩ := ob_some hf
  refine k_v C1 hI (q_S C0 C1 hI (c_J0_checkIndex_df160 l g (xb g r T ++ X) r b H.size n M x1 x4_3 h_5) w_1125 w_1055 w_82 w_1056 ⟨rfl, rfl⟩ hd_J0_checkIndex_df160 ⟨Nat.le_of_ble_eq_true rfl, Nat.le_of_ble_eq_true rfl⟩ rfl hl.1 rfl (Nat.le_of_ble_eq_true rfl) dJ5_charAt_5068e_26 ⟨Nat.le_of_ble_eq_true rfl, Nat.le_of_ble_eq_true rfl⟩) (fun H locs hI => ?_)
  refine lv_iload_n C0.1 C0.2.1 dJ5_charAt_5068e_29 rfl (lv_at hl 2 rfl) ?_
  refine lv_if_ne (tgt := 42) C0.1 C0.2.1 dJ5_charAt_5068e_30 (by decide) (fun c_7 => ?_) (fun c_7 => ?_)
  · have hf := (if_neg c_7).symm.trans hf
    exact nomatch hf
  · have hf := (if_pos c_7).symm.trans hf
    refine lv_aload_n C0.1 C0.2.1 dJ5_charAt_5068e_33 rfl (lv_at hl 1 rfl) ?_
    refine lv_iload_n C0.1 C0.2.1 dJ5_charAt_5068e_34 rfl (lv_at hl 4 rfl) ?_
    obtain ⟨h_8, hf⟩ := chk_some hf
    refine x_bald C0 C1 hI 0 xb_0 h_8 dJ5_charAt_5068e_35 ?_
    refine lv_sipush (v := 255) C0.1 C0.2.1 dJ5_charAt_5068e_36 (by decide) ?_
    refine lv_iand C0.1 C0.2.1 dJ5_charAt_5068e_39 ?_
    refine lv_i2c C0.1 C0.2.1 dJ5_charAt_5068e_40 rfl ?_
    exact ee_z C0 hI hr hlocks (pk_nc _) hf dJ5_charAt_5068e_41

def F_J5_charAt_5068e_l (n : Nat) (T : Mem) (x1 : Int32) (M : Mem) : Option Int32 :=
  lt' (M 371 1) (fun x2_1 => lt' (if ((nI (ix (T 374 1))) >>> (x2_1 &&& 31)) < (M 371 3) then ((nI (ix (T 374 1))) >>> (x2_1 &&& 31)) else (M 371 3)) (fun x4_3 => ob (F_J0_checkIndex_df160 n x1 x4_3 M) (fun u_6 => (if x2_1 = 0 then chk (inb x1 (ix (T 374 1))) (some ((((T 373 (ix x1)) &&& 255).toUInt32 % 65536).toInt32)) else none))))
set_option maxHeartbeats 4000000 in
set_option maxRecDepth 100000 in
theorem c_J5_charAt_5068e_l (l : Launch) (g : GG) (X : va_W) (r : Nat → Nat) (b : Nat → Nat) (sz n : Nat) (M : Mem) (T : Mem) (x1 : Int32) {r0 : Int32} (hf : F_J5_charAt_5068e_l n T x1 M = some r0) : Met l yJ5_charAt_5068e (.code yJ5_charAt_5068e cJ5_charAt_5068e 5 (some .char) :: LWg) (rmD 2 0 0) (va_Pc [.ref (b 371), .int x1] (PreP g (xb g r T ++ X) 372 (shI g r b) b sz M)) (Qi g (xb g r T ++ X) 372 (shI g r b) b sz r0 M) 0 0 (AA (xb g r T ++ X) b 372 sz) := by
  refine met_go (by decide +kernel) rfl (Nat.le_of_ble_eq_true rfl) ?_
  intro p e s m below meth c ls H locs C0 C1 hr hlocks hnm hsz hl hI
  subst hsz
  have hl : lv_has ls 5 [(0, .ref (b 371)), (1, .int x1)] := hl
  unfold F_J5_charAt_5068e_l at hf
  refine lv_aload_n C0.1 C0.2.1 dJ5_charAt_5068e_0 rfl (lv_at hl 0 rfl) ?_
  refine r_getA (C := RJ4) (T := TJ4) (N9 := 4) (ci := 1) C0 C1 hI iJ4 rfl 371 1 (kdlt13 (rfl : kdI 371 = 13)) (by decide) (shI_13 (rfl : kdI 371 = 13) _) rfl w_328 dJ5_charAt_5068e_1 ?_
  refine lv_topi (fun x2_1 e_2 => ?_)
  have hf := lt_at e_2 hf
  refine lv_istore_n (lv' := [(2, .int x2_1), (0, .ref (b 371)), (1, .int x1)]) C0.1 C0.2.1 dJ5_charAt_5068e_4 rfl hl (by decide) rfl (fun ls hl => ?_)
  refine lv_aload_n C0.1 C0.2.1 dJ5_charAt_5068e_5 rfl (lv_at hl 1 rfl) ?_
  refine r_getA (C := RJ4) (T := TJ4) (N9 := 4) (ci := 1) C0 C1 hI iJ4 rfl 371 0 (kdlt13 (rfl : kdI 371 = 13)) (by decide) (shI_13 (rfl : kdI 371 = 13) _) rfl w_327 dJ5_charAt_5068e_6 ?_
  refine lv_astore_n (lv' := [(3, .ref (r 371)), (2, .int x2_1), (0, .ref (b 371)), (1, .int x1)]) C0.1 C0.2.1 dJ5_charAt_5068e_9 rfl hl (by decide) rfl (fun ls hl => ?_)
  refine lv_aload_n C0.1 C0.2.1 dJ5_charAt_5068e_10 rfl (lv_at hl 2 rfl) ?_
  refine r_getA (C := RJ4) (T := TJ4) (N9 := 4) (ci := 1) C0 C1 hI iJ4 rfl 371 3 (kdlt13 (rfl : kdI 371 = 13)) (by decide) (shI_13 (rfl : kdI 371 = 13) _) rfl w_331 dJ5_charAt_5068e_11 ?_
  refine lv_aload_n C0.1 C0.2.1 dJ5_charAt_5068e_14 rfl (lv_at hl 0 rfl) ?_
  refine x_alen C0 C1 hI 1 xb_1 dJ5_charAt_5068e_15 ?_
  refine lv_iload_n C0.1 C0.2.1 dJ5_charAt_5068e_16 rfl (lv_at hl 1 rfl) ?_
  refine lv_ishr C0.1 C0.2.1 dJ5_charAt_5068e_17 ?_
  refine r_mmin C0 hl.1 w_1124 (Nat.le_of_ble_eq_true rfl) (Nat.le_of_ble_eq_true rfl) (Nat.le_of_ble_eq_true rfl) (Nat.le_of_ble_eq_true rfl) dJ5_charAt_5068e_18 ?_
  refine lv_topi (fun x4_3 e_4 => ?_)
  have hf := lt_at e_4 hf
  refine lv_istore (lv' := [(4, .int x4_3), (3, .ref (r 371)), (2, .int x2_1), (0, .ref (b 371)), (1, .int x1)]) C0.1 C0.2.1 dJ5_charAt_5068e_21 hl (by decide) rfl (fun ls hl => ?_)
  refine lv_iload_n C0.1 C0.2.1 dJ5_charAt_5068e_23 rfl (lv_at hl 4 rfl) ?_
  refine lv_iload C0.1 C0.2.1 dJ5_charAt_5068e_24 (lv_at hl 0 rfl) ?_
  obtain ⟨u_6, h_5, hf⟩ := ob_some hf
  refine k_v C1 hI (q_S C0 C1 hI (c_J0_checkIndex_df160 l g (xb g r T ++ X) r b H.size n M x1 x4_3 h_5) w_1125 w_1055 w_82 w_1056 ⟨rfl, rfl⟩ hd_J0_checkIndex_df160 ⟨Nat.le_of_ble_eq_true rfl, Nat.le_of_ble_eq_true rfl⟩ rfl hl.1 rfl (Nat.le_of_ble_eq_true rfl) dJ5_charAt_5068e_26 ⟨Nat.le_of_ble_eq_true rfl, Nat.le_of_ble_eq_true rfl⟩) (fun H locs hI => ?_)
  refine lv_iload_n C0.1 C0.2.1 dJ5_charAt_5068e_29 rfl (lv_at hl 2 rfl) ?_
  refine lv_if_ne (tgt := 42) C0.1 C0.2.1 dJ5_charAt_5068e_30 (by decide) (fun c_7 => ?_) (fun c_7 => ?_)
  · have hf := (if_neg c_7).symm.trans hf
    exact nomatch hf
  · have hf := (if_pos c_7).symm.trans hf
    refine lv_aload_n C0.1 C0.2.1 dJ5_charAt_5068e_33 rfl (lv_at hl 1 rfl) ?_
    refine lv_iload_n C0.1 C0.2.1 dJ5_charAt_5068e_34 rfl (lv_at hl 4 rfl) ?_
    obtain ⟨h_8, hf⟩ := chk_some hf
    refine x_bald C0 C1 hI 1 xb_1 h_8 dJ5_charAt_5068e_35 ?_
    refine lv_sipush (v := 255) C0.1 C0.2.1 dJ5_charAt_5068e_36 (by decide) ?_
    refine lv_iand C0.1 C0.2.1 dJ5_charAt_5068e_39 ?_
    refine lv_i2c C0.1 C0.2.1 dJ5_charAt_5068e_40 rfl ?_
    exact ee_z C0 hI hr hlocks (pk_nc _) hf dJ5_charAt_5068e_41

def F_J4_charAt_5068e_t (n : Nat) (T : Mem) (x1 : Int32) (M : Mem) : Option Int32 :=
  ob (F_J5_charAt_5068e_t n T x1 M) (fun r_2 => chk (isC r_2) (some r_2))
theorem hd_J4_charAt_5068e : yJ4_charAt_5068e.cls ≠ "java/lang/invoke/MethodHandle" ∧ yJ4_charAt_5068e.cls ≠ "java/lang/invoke/VarHandle" ∧ (parseMethodDescriptor yJ4_charAt_5068e.desc).map (fun d => d.parameters.length) = some 1 := ⟨by decide +kernel, by decide +kernel, by decide +kernel⟩
set_option maxHeartbeats 4000000 in
set_option maxRecDepth 100000 in
theorem c_J4_charAt_5068e_t (l : Launch) (g : GG) (X : va_W) (r : Nat → Nat) (b : Nat → Nat) (sz n : Nat) (M : Mem) (T : Mem) (x1 : Int32) {r0 : Int32} (hf : F_J4_charAt_5068e_t n T x1 M = some r0) : Met l yJ4_charAt_5068e (.code yJ4_charAt_5068e cJ4_charAt_5068e 2 (some .char) :: LWg) (rmD 3 0 0) (va_Pc [.ref (b 370), .int x1] (PreP g (xb g r T ++ X) 372 (shI g r b) b sz M)) (Qi g (xb g r T ++ X) 372 (shI g r b) b sz r0 M) 0 0 (AA (xb g r T ++ X) b 372 sz) := by
  refine met_go (by decide +kernel) rfl (Nat.le_of_ble_eq_true rfl) ?_
  intro p e s m below meth c ls H locs C0 C1 hr hlocks hnm hsz hl hI
  subst hsz
  have hl : lv_has ls 2 [(0, .ref (b 370)), (1, .int x1)] := hl
  unfold F_J4_charAt_5068e_t at hf
  refine lv_aload_n C0.1 C0.2.1 dJ4_charAt_5068e_0 rfl (lv_at hl 0 rfl) ?_
  refine lv_iload_n C0.1 C0.2.1 dJ4_charAt_5068e_1 rfl (lv_at hl 1 rfl) ?_
  obtain ⟨r_2, h_1, hf⟩ := ob_some hf
  refine k_i C1 hI (q_SU C0 C1 hI 370 (c_J5_charAt_5068e_t l g X r b H.size n M T x1 h_1) w_1121 w_1804 w_340 w_1122 w_80 w_1123 ⟨rfl, rfl⟩ ⟨by decide, hd_J5_charAt_5068e.2.2⟩ ⟨Nat.le_of_ble_eq_true rfl, Nat.le_of_ble_eq_true rfl⟩ (kdlt13 (rfl : kdI 370 = 13)) (shI_13 (rfl : kdI 370 = 13) _) rfl rfl hl.1 rfl (Nat.le_of_ble_eq_true rfl) dJ4_charAt_5068e_2 ⟨Nat.le_of_ble_eq_true rfl, Nat.le_of_ble_eq_true rfl⟩) (fun H locs hI => ?_)
  obtain ⟨h_3, hf⟩ := chk_some hf
  exact ee_z C0 hI hr hlocks (isC_n h_3) hf dJ4_charAt_5068e_5

def F_J4_charAt_5068e_l (n : Nat) (T : Mem) (x1 : Int32) (M : Mem) : Option Int32 :=
  ob (F_J5_charAt_5068e_l n T x1 M) (fun r_2 => chk (isC r_2) (some r_2))
set_option maxHeartbeats 4000000 in
set_option maxRecDepth 100000 in
theorem c_J4_charAt_5068e_l (l : Launch) (g : GG) (X : va_W) (r : Nat → Nat) (b : Nat → Nat) (sz n : Nat) (M : Mem) (T : Mem) (x1 : Int32) {r0 : Int32} (hf : F_J4_charAt_5068e_l n T x1 M = some r0) : Met l yJ4_charAt_5068e (.code yJ4_charAt_5068e cJ4_charAt_5068e 2 (some .char) :: LWg) (rmD 3 0 0) (va_Pc [.ref (b 371), .int x1] (PreP g (xb g r T ++ X) 372 (shI g r b) b sz M)) (Qi g (xb g r T ++ X) 372 (shI g r b) b sz r0 M) 0 0 (AA (xb g r T ++ X) b 372 sz) := by
  refine met_go (by decide +kernel) rfl (Nat.le_of_ble_eq_true rfl) ?_
  intro p e s m below meth c ls H locs C0 C1 hr hlocks hnm hsz hl hI
  subst hsz
  have hl : lv_has ls 2 [(0, .ref (b 371)), (1, .int x1)] := hl
  unfold F_J4_charAt_5068e_l at hf
  refine lv_aload_n C0.1 C0.2.1 dJ4_charAt_5068e_0 rfl (lv_at hl 0 rfl) ?_
  refine lv_iload_n C0.1 C0.2.1 dJ4_charAt_5068e_1 rfl (lv_at hl 1 rfl) ?_
  obtain ⟨r_2, h_1, hf⟩ := ob_some hf
  refine k_i C1 hI (q_SU C0 C1 hI 371 (c_J5_charAt_5068e_l l g X r b H.size n M T x1 h_1) w_1121 w_1804 w_340 w_1122 w_80 w_1123 ⟨rfl, rfl⟩ ⟨by decide, hd_J5_charAt_5068e.2.2⟩ ⟨Nat.le_of_ble_eq_true rfl, Nat.le_of_ble_eq_true rfl⟩ (kdlt13 (rfl : kdI 371 = 13)) (shI_13 (rfl : kdI 371 = 13) _) rfl rfl hl.1 rfl (Nat.le_of_ble_eq_true rfl) dJ4_charAt_5068e_2 ⟨Nat.le_of_ble_eq_true rfl, Nat.le_of_ble_eq_true rfl⟩) (fun H locs hI => ?_)
  obtain ⟨h_3, hf⟩ := chk_some hf
  exact ee_z C0 hI hr hlocks (isC_n h_3) hf dJ4_charAt_5068e_5

def F_J5_ensureCapacityInternal_d00df_t (n : Nat) (T : Mem) (x1 : Int32) (M : Mem) : Option Unit :=
  lt' ((nI (ix (T 374 0))) >>> ((M 370 1) &&& 31)) (fun x2_1 => (if (x1 - x2_1) ≤ 0 then some () else none))
theorem hd_J5_ensureCapacityInternal_d00df : yJ5_ensureCapacityInternal_d00df.cls ≠ "java/lang/invoke/MethodHandle" ∧ yJ5_ensureCapacityInternal_d00df.cls ≠ "java/lang/invoke/VarHandle" ∧ (parseMethodDescriptor yJ5_ensureCapacityInternal_d00df.desc).map (fun d => d.parameters.length) = some 1 := ⟨by decide +kernel, by decide +kernel, by decide +kernel⟩
set_option maxHeartbeats 4000000 in
set_option maxRecDepth 100000 in
theorem c_J5_ensureCapacityInternal_d00df_t (l : Launch) (g : GG) (X : va_W) (r : Nat → Nat) (b : Nat → Nat) (sz n : Nat) (M : Mem) (T : Mem) (x1 : Int32)  (hf : F_J5_ensureCapacityInternal_d00df_t n T x1 M = some ()) : Met l yJ5_ensureCapacityInternal_d00df (.code yJ5_ensureCapacityInternal_d00df cJ5_ensureCapacityInternal_d00df 3 none :: LWg) (rmD 0 0 0) (va_Pc [.ref (b 370), .int x1] (PreP g (xb g r T ++ X) 372 (shI g r b) b sz M)) (Qv g (xb g r T ++ X) 372 (shI g r b) b sz M) 0 0 (AA (xb g r T ++ X) b 372 sz) := by
  refine met_go (by decide +kernel) rfl (Nat.le_of_ble_eq_true rfl) ?_
  intro p e s m below meth c ls H locs C0 C1 hr hlocks hnm hsz hl hI
  subst hsz
  have hl : lv_has ls 3 [(0, .ref (b 370)), (1, .int x1)] := hl
  unfold F_J5_ensureCapacityInternal_d00df_t at hf
  refine lv_aload_n C0.1 C0.2.1 dJ5_ensureCapacityInternal_d00df_0 rfl (lv_at hl 0 rfl) ?_
  refine r_getA (C := RJ4) (T := TJ4) (N9 := 4) (ci := 1) C0 C1 hI iJ4 rfl 370 0 (kdlt13 (rfl : kdI 370 = 13)) (by decide) (shI_13 (rfl : kdI 370 = 13) _) rfl w_327 dJ5_ensureCapacityInternal_d00df_1 ?_
  refine x_alen C0 C1 hI 0 xb_0 dJ5_ensureCapacityInternal_d00df_4 ?_
  refine lv_aload_n C0.1 C0.2.1 dJ5_ensureCapacityInternal_d00df_5 rfl (lv_at hl 0 rfl) ?_
  refine r_getA (C := RJ4) (T := TJ4) (N9 := 4) (ci := 1) C0 C1 hI iJ4 rfl 370 1 (kdlt13 (rfl : kdI 370 = 13)) (by decide) (shI_13 (rfl : kdI 370 = 13) _) rfl w_328 dJ5_ensureCapacityInternal_d00df_6 ?_
  refine lv_ishr C0.1 C0.2.1 dJ5_ensureCapacityInternal_d00df_9 ?_
  refine lv_topi (fun x2_1 e_2 => ?_)
  have hf := lt_at e_2 hf
  refine lv_istore_n (lv' := [(2, .int x2_1), (0, .ref (b 370)), (1, .int x1)]) C0.1 C0.2.1 dJ5_ensureCapacityInternal_d00df_10 rfl hl (by decide) rfl (fun ls hl => ?_)
  refine lv_iload_n C0.1 C0.2.1 dJ5_ensureCapacityInternal_d00df_11 rfl (lv_at hl 2 rfl) ?_
  refine lv_iload_n C0.1 C0.2.1 dJ5_ensureCapacityInternal_d00df_12 rfl (lv_at hl 0 rfl) ?_
  refine lv_isub C0.1 C0.2.1 dJ5_ensureCapacityInternal_d00df_13 ?_
  refine lv_if_le (tgt := 38) C0.1 C0.2.1 dJ5_ensureCapacityInternal_d00df_14 (by decide) (fun c_3 => ?_) (fun c_3 => ?_)
  · have hf := (if_pos c_3).symm.trans hf
    exact ee_v C0 hI hr hlocks hf dJ5_ensureCapacityInternal_d00df_38
  · have hf := (if_neg c_3).symm.trans hf
    exact nomatch hf

def F_J5_ensureCapacityInternal_d00df_l (n : Nat) (T : Mem) (x1 : Int32) (M : Mem) : Option Unit :=
  lt' ((nI (ix (T 374 1))) >>> ((M 371 1) &&& 31)) (fun x2_1 => (if (x1 - x2_1) ≤ 0 then some () else none))
set_option maxHeartbeats 4000000 in
set_option maxRecDepth 100000 in
theorem c_J5_ensureCapacityInternal_d00df_l (l : Launch) (g : GG) (X : va_W) (r : Nat → Nat) (b : Nat → Nat) (sz n : Nat) (M : Mem) (T : Mem) (x1 : Int32)  (hf : F_J5_ensureCapacityInternal_d00df_l n T x1 M = some ()) : Met l yJ5_ensureCapacityInternal_d00df (.code yJ5_ensureCapacityInternal_d00df cJ5_ensureCapacityInternal_d00df 3 none :: LWg) (rmD 0 0 0) (va_Pc [.ref (b 371), .int x1] (PreP g (xb g r T ++ X) 372 (shI g r b) b sz M)) (Qv g (xb g r T ++ X) 372 (shI g r b) b sz M) 0 0 (AA (xb g r T ++ X) b 372 sz) := by
  refine met_go (by decide +kernel) rfl (Nat.le_of_ble_eq_true rfl) ?_
  intro p e s m below meth c ls H locs C0 C1 hr hlocks hnm hsz hl hI
  subst hsz
  have hl : lv_has ls 3 [(0, .ref (b 371)), (1, .int x1)] := hl
  unfold F_J5_ensureCapacityInternal_d00df_l at hf
  refine lv_aload_n C0.1 C0.2.1 dJ5_ensureCapacityInternal_d00df_0 rfl (lv_at hl 0 rfl) ?_
  refine r_getA (C := RJ4) (T := TJ4) (N9 := 4) (ci := 1) C0 C1 hI iJ4 rfl 371 0 (kdlt13 (rfl : kdI 371 = 13)) (by decide) (shI_13 (rfl : kdI 371 = 13) _) rfl w_327 dJ5_ensureCapacityInternal_d00df_1 ?_
  refine x_alen C0 C1 hI 1 xb_1 dJ5_ensureCapacityInternal_d00df_4 ?_
  refine lv_aload_n C0.1 C0.2.1 dJ5_ensureCapacityInternal_d00df_5 rfl (lv_at hl 0 rfl) ?_
  refine r_getA (C := RJ4) (T := TJ4) (N9 := 4) (ci := 1) C0 C1 hI iJ4 rfl 371 1 (kdlt13 (rfl : kdI 371 = 13)) (by decide) (shI_13 (rfl : kdI 371 = 13) _) rfl w_328 dJ5_ensureCapacityInternal_d00df_6 ?_
  refine lv_ishr C0.1 C0.2.1 dJ5_ensureCapacityInternal_d00df_9 ?_
  refine lv_topi (fun x2_1 e_2 => ?_)
  have hf := lt_at e_2 hf
  refine lv_istore_n (lv' := [(2, .int x2_1), (0, .ref (b 371)), (1, .int x1)]) C0.1 C0.2.1 dJ5_ensureCapacityInternal_d00df_10 rfl hl (by decide) rfl (fun ls hl => ?_)
  refine lv_iload_n C0.1 C0.2.1 dJ5_ensureCapacityInternal_d00df_11 rfl (lv_at hl 2 rfl) ?_
  refine lv_iload_n C0.1 C0.2.1 dJ5_ensureCapacityInternal_d00df_12 rfl (lv_at hl 0 rfl) ?_
  refine lv_isub C0.1 C0.2.1 dJ5_ensureCapacityInternal_d00df_13 ?_
  refine lv_if_le (tgt := 38) C0.1 C0.2.1 dJ5_ensureCapacityInternal_d00df_14 (by decide) (fun c_3 => ?_) (fun c_3 => ?_)
  · have hf := (if_pos c_3).symm.trans hf
    exact ee_v C0 hI hr hlocks hf dJ5_ensureCapacityInternal_d00df_38
  · have hf := (if_neg c_3).symm.trans hf
    exact nomatch hf

def F_J5_setLength_d00df_t (n : Nat) (T : Mem) (x1 : Int32) (M : Mem) : Option Mem :=
  (if 0 ≤ x1 then ob (F_J5_ensureCapacityInternal_d00df_t n T x1 M) (fun u_3 => (if x1 ≤ (M 370 3) then (if (M 370 3) ≤ x1 then lt' (up2 M 370 3 x1) (fun M_6 => some M_6) else lt' (up2 M 370 2 1) (fun M_8 => lt' (up2 M_8 370 3 x1) (fun M_10 => some M_10))) else none)) else none)
theorem hd_J5_setLength_d00df : yJ5_setLength_d00df.cls ≠ "java/lang/invoke/MethodHandle" ∧ yJ5_setLength_d00df.cls ≠ "java/lang/invoke/VarHandle" ∧ (parseMethodDescriptor yJ5_setLength_d00df.desc).map (fun d => d.parameters.length) = some 1 := ⟨by decide +kernel, by decide +kernel, by decide +kernel⟩
set_option maxHeartbeats 4000000 in
set_option maxRecDepth 100000 in
theorem c_J5_setLength_d00df_t (l : Launch) (g : GG) (X : va_W) (r : Nat → Nat) (b : Nat → Nat) (sz n : Nat) (M : Mem) (T : Mem) (x1 : Int32)  {M' : Mem} (hf : F_J5_setLength_d00df_t n T x1 M = some M') : Met l yJ5_setLength_d00df (.code yJ5_setLength_d00df cJ5_setLength_d00df 2 none :: LWg) (rmD 1 0 0) (va_Pc [.ref (b 370), .int x1] (PreP g (xb g r T ++ X) 372 (shI g r b) b sz M)) (Qv g (xb g r T ++ X) 372 (shI g r b) b sz M') 0 0 (AA (xb g r T ++ X) b 372 sz) := by
  refine met_go (by decide +kernel) rfl (Nat.le_of_ble_eq_true rfl) ?_
  intro p e s m below meth c ls H locs C0 C1 hr hlocks hnm hsz hl hI
  subst hsz
  have hl : lv_has ls 2 [(0, .ref (b 370)), (1, .int x1)] := hl
  unfold F_J5_setLength_d00df_t at hf
  refine lv_iload_n C0.1 C0.2.1 dJ5_setLength_d00df_0 rfl (lv_at hl 1 rfl) ?_
  refine lv_if_ge (tgt := 13) C0.1 C0.2.1 dJ5_setLength_d00df_1 (by decide) (fun c_1 => ?_) (fun c_1 => ?_)
  · have hf := (if_pos c_1).symm.trans hf
    refine lv_aload_n C0.1 C0.2.1 dJ5_setLength_d00df_13 rfl (lv_at hl 0 rfl) ?_
    refine lv_iload_n C0.1 C0.2.1 dJ5_setLength_d00df_14 rfl (lv_at hl 1 rfl) ?_
    obtain ⟨u_3, h_2, hf⟩ := ob_some hf
    refine k_v C1 hI (q_U C0 C1 hI 370 (c_J5_ensureCapacityInternal_d00df_t l g X r b H.size n M T x1 h_2) RJ4 w_974 w_1801 w_9001 w_976 w_80 w_977 ⟨rfl, rfl⟩ hd_J5_ensureCapacityInternal_d00df ⟨Nat.le_of_ble_eq_true rfl, Nat.le_of_ble_eq_true rfl⟩ (kdlt13 (rfl : kdI 370 = 13)) (shI_13 (rfl : kdI 370 = 13) _) rfl rfl rfl hl.1 rfl (Nat.le_of_ble_eq_true rfl) dJ5_setLength_d00df_15 ⟨Nat.le_of_ble_eq_true rfl, Nat.le_of_ble_eq_true rfl⟩) (fun H locs hI => ?_)
    refine lv_aload_n C0.1 C0.2.1 dJ5_setLength_d00df_18 rfl (lv_at hl 0 rfl) ?_
    refine r_getA (C := RJ4) (T := TJ4) (N9 := 4) (ci := 1) C0 C1 hI iJ4 rfl 370 3 (kdlt13 (rfl : kdI 370 = 13)) (by decide) (shI_13 (rfl : kdI 370 = 13) _) rfl w_331 dJ5_setLength_d00df_19 ?_
    refine lv_iload_n C0.1 C0.2.1 dJ5_setLength_d00df_22 rfl (lv_at hl 1 rfl) ?_
    refine lv_icmp_ge (tgt := 63) C0.1 C0.2.1 dJ5_setLength_d00df_23 (by decide) (fun c_4 => ?_) (fun c_4 => ?_)
    · have hf := (if_pos c_4).symm.trans hf
      refine lv_aload_n C0.1 C0.2.1 dJ5_setLength_d00df_63 rfl (lv_at hl 0 rfl) ?_
      refine r_getA (C := RJ4) (T := TJ4) (N9 := 4) (ci := 1) C0 C1 hI iJ4 rfl 370 3 (kdlt13 (rfl : kdI 370 = 13)) (by decide) (shI_13 (rfl : kdI 370 = 13) _) rfl w_331 dJ5_setLength_d00df_64 ?_
      refine lv_iload_n C0.1 C0.2.1 dJ5_setLength_d00df_67 rfl (lv_at hl 1 rfl) ?_
      refine lv_icmp_le (tgt := 76) C0.1 C0.2.1 dJ5_setLength_d00df_68 (by decide) (fun c_5 => ?_) (fun c_5 => ?_)
      · have hf := (if_pos c_5).symm.trans hf
        refine lv_aload_n C0.1 C0.2.1 dJ5_setLength_d00df_76 rfl (lv_at hl 0 rfl) ?_
        refine lv_iload_n C0.1 C0.2.1 dJ5_setLength_d00df_77 rfl (lv_at hl 1 rfl) ?_
        refine r_putA (C := RJ4) (T := TJ4) (N9 := 4) (ci := 1) (fs := fS r 370) (ty := .int) C0 C1 hI iJ4 tyJ4 tyJ4_ok nmJ4 rfl 370 3 (kdlt13 (rfl : kdI 370 = 13)) (by decide) (shI_13 (rfl : kdI 370 = 13)) rfl rfl (by decide +kernel) ⟨rfl, rfl⟩ (Nat.le_of_ble_eq_true rfl) w_331 dJ5_setLength_d00df_78 (fun H locs hI => ?_)
        obtain ⟨M_6, e_7⟩ : ∃ z : Mem, z = up2 M 370 3 x1 := ⟨_, rfl⟩
        rw [← e_7] at hI
        have hf := lt_at e_7 hf
        exact ee_vm C0 hI hr hlocks hf dJ5_setLength_d00df_81
      · have hf := (if_neg c_5).symm.trans hf
        refine lv_aload_n C0.1 C0.2.1 dJ5_setLength_d00df_71 rfl (lv_at hl 0 rfl) ?_
        refine lv_iconst (v := 1) C0.1 C0.2.1 dJ5_setLength_d00df_72 (by decide) ?_
        refine r_putA (C := RJ4) (T := TJ4) (N9 := 4) (ci := 1) (fs := fS r 370) (ty := .boolean) C0 C1 hI iJ4 tyJ4 tyJ4_ok nmJ4 rfl 370 2 (kdlt13 (rfl : kdI 370 = 13)) (by decide) (shI_13 (rfl : kdI 370 = 13)) rfl rfl (by decide +kernel) ⟨rfl, rfl⟩ (Nat.le_of_ble_eq_true rfl) w_329 dJ5_setLength_d00df_73 (fun H locs hI => ?_)
        obtain ⟨M_8, e_9⟩ : ∃ z : Mem, z = up2 M 370 2 1 := ⟨_, rfl⟩
        rw [← e_9] at hI
        have hf := lt_at e_9 hf
        refine lv_aload_n C0.1 C0.2.1 dJ5_setLength_d00df_76 rfl (lv_at hl 0 rfl) ?_
        refine lv_iload_n C0.1 C0.2.1 dJ5_setLength_d00df_77 rfl (lv_at hl 1 rfl) ?_
        refine r_putA (C := RJ4) (T := TJ4) (N9 := 4) (ci := 1) (fs := fS r 370) (ty := .int) C0 C1 hI iJ4 tyJ4 tyJ4_ok nmJ4 rfl 370 3 (kdlt13 (rfl : kdI 370 = 13)) (by decide) (shI_13 (rfl : kdI 370 = 13)) rfl rfl (by decide +kernel) ⟨rfl, rfl⟩ (Nat.le_of_ble_eq_true rfl) w_331 dJ5_setLength_d00df_78 (fun H locs hI => ?_)
        obtain ⟨M_10, e_11⟩ : ∃ z : Mem, z = up2 M_8 370 3 x1 := ⟨_, rfl⟩
        rw [← e_11] at hI
        have hf := lt_at e_11 hf
        exact ee_vm C0 hI hr hlocks hf dJ5_setLength_d00df_81
    · have hf := (if_neg c_4).symm.trans hf
      exact nomatch hf
  · have hf := (if_neg c_1).symm.trans hf
    exact nomatch hf

def F_J5_setLength_d00df_l (n : Nat) (T : Mem) (x1 : Int32) (M : Mem) : Option Mem :=
  (if 0 ≤ x1 then ob (F_J5_ensureCapacityInternal_d00df_l n T x1 M) (fun u_3 => (if x1 ≤ (M 371 3) then (if (M 371 3) ≤ x1 then lt' (up2 M 371 3 x1) (fun M_6 => some M_6) else lt' (up2 M 371 2 1) (fun M_8 => lt' (up2 M_8 371 3 x1) (fun M_10 => some M_10))) else none)) else none)
set_option maxHeartbeats 4000000 in
set_option maxRecDepth 100000 in
theorem c_J5_setLength_d00df_l (l : Launch) (g : GG) (X : va_W) (r : Nat → Nat) (b : Nat → Nat) (sz n : Nat) (M : Mem) (T : Mem) (x1 : Int32)  {M' : Mem} (hf : F_J5_setLength_d00df_l n T x1 M = some M') : Met l yJ5_setLength_d00df (.code yJ5_setLength_d00df cJ5_setLength_d00df 2 none :: LWg) (rmD 1 0 0) (va_Pc [.ref (b 371), .int x1] (PreP g (xb g r T ++ X) 372 (shI g r b) b sz M)) (Qv g (xb g r T ++ X) 372 (shI g r b) b sz M') 0 0 (AA (xb g r T ++ X) b 372 sz) := by
  refine met_go (by decide +kernel) rfl (Nat.le_of_ble_eq_true rfl) ?_
  intro p e s m below meth c ls H locs C0 C1 hr hlocks hnm hsz hl hI
  subst hsz
  have hl : lv_has ls 2 [(0, .ref (b 371)), (1, .int x1)] := hl
  unfold F_J5_setLength_d00df_l at hf
  refine lv_iload_n C0.1 C0.2.1 dJ5_setLength_d00df_0 rfl (lv_at hl 1 rfl) ?_
  refine lv_if_ge (tgt := 13) C0.1 C0.2.1 dJ5_setLength_d00df_1 (by decide) (fun c_1 => ?_) (fun c_1 => ?_)
  · have hf := (if_pos c_1).symm.trans hf
    refine lv_aload_n C0.1 C0.2.1 dJ5_setLength_d00df_13 rfl (lv_at hl 0 rfl) ?_
    refine lv_iload_n C0.1 C0.2.1 dJ5_setLength_d00df_14 rfl (lv_at hl 1 rfl) ?_
    obtain ⟨u_3, h_2, hf⟩ := ob_some hf
    refine k_v C1 hI (q_U C0 C1 hI 371 (c_J5_ensureCapacityInternal_d00df_l l g X r b H.size n M T x1 h_2) RJ4 w_974 w_1801 w_9001 w_976 w_80 w_977 ⟨rfl, rfl⟩ hd_J5_ensureCapacityInternal_d00df ⟨Nat.le_of_ble_eq_true rfl, Nat.le_of_ble_eq_true rfl⟩ (kdlt13 (rfl : kdI 371 = 13)) (shI_13 (rfl : kdI 371 = 13) _) rfl rfl rfl hl.1 rfl (Nat.le_of_ble_eq_true rfl) dJ5_setLength_d00df_15 ⟨Nat.le_of_ble_eq_true rfl, Nat.le_of_ble_eq_true rfl⟩) (fun H locs hI => ?_)
    refine lv_aload_n C0.1 C0.2.1 dJ5_setLength_d00df_18 rfl (lv_at hl 0 rfl) ?_
    refine r_getA (C := RJ4) (T := TJ4) (N9 := 4) (ci := 1) C0 C1 hI iJ4 rfl 371 3 (kdlt13 (rfl : kdI 371 = 13)) (by decide) (shI_13 (rfl : kdI 371 = 13) _) rfl w_331 dJ5_setLength_d00df_19 ?_
    refine lv_iload_n C0.1 C0.2.1 dJ5_setLength_d00df_22 rfl (lv_at hl 1 rfl) ?_
    refine lv_icmp_ge (tgt := 63) C0.1 C0.2.1 dJ5_setLength_d00df_23 (by decide) (fun c_4 => ?_) (fun c_4 => ?_)
    · have hf := (if_pos c_4).symm.trans hf
      refine lv_aload_n C0.1 C0.2.1 dJ5_setLength_d00df_63 rfl (lv_at hl 0 rfl) ?_
      refine r_getA (C := RJ4) (T := TJ4) (N9 := 4) (ci := 1) C0 C1 hI iJ4 rfl 371 3 (kdlt13 (rfl : kdI 371 = 13)) (by decide) (shI_13 (rfl : kdI 371 = 13) _) rfl w_331 dJ5_setLength_d00df_64 ?_
      refine lv_iload_n C0.1 C0.2.1 dJ5_setLength_d00df_67 rfl (lv_at hl 1 rfl) ?_
      refine lv_icmp_le (tgt := 76) C0.1 C0.2.1 dJ5_setLength_d00df_68 (by decide) (fun c_5 => ?_) (fun c_5 => ?_)
      · have hf := (if_pos c_5).symm.trans hf
        refine lv_aload_n C0.1 C0.2.1 dJ5_setLength_d00df_76 rfl (lv_at hl 0 rfl) ?_
        refine lv_iload_n C0.1 C0.2.1 dJ5_setLength_d00df_77 rfl (lv_at hl 1 rfl) ?_
        refine r_putA (C := RJ4) (T := TJ4) (N9 := 4) (ci := 1) (fs := fS r 371) (ty := .int) C0 C1 hI iJ4 tyJ4 tyJ4_ok nmJ4 rfl 371 3 (kdlt13 (rfl : kdI 371 = 13)) (by decide) (shI_13 (rfl : kdI 371 = 13)) rfl rfl (by decide +kernel) ⟨rfl, rfl⟩ (Nat.le_of_ble_eq_true rfl) w_331 dJ5_setLength_d00df_78 (fun H locs hI => ?_)
        obtain ⟨M_6, e_7⟩ : ∃ z : Mem, z = up2 M 371 3 x1 := ⟨_, rfl⟩
        rw [← e_7] at hI
        have hf := lt_at e_7 hf
        exact ee_vm C0 hI hr hlocks hf dJ5_setLength_d00df_81
      · have hf := (if_neg c_5).symm.trans hf
        refine lv_aload_n C0.1 C0.2.1 dJ5_setLength_d00df_71 rfl (lv_at hl 0 rfl) ?_
        refine lv_iconst (v := 1) C0.1 C0.2.1 dJ5_setLength_d00df_72 (by decide) ?_
        refine r_putA (C := RJ4) (T := TJ4) (N9 := 4) (ci := 1) (fs := fS r 371) (ty := .boolean) C0 C1 hI iJ4 tyJ4 tyJ4_ok nmJ4 rfl 371 2 (kdlt13 (rfl : kdI 371 = 13)) (by decide) (shI_13 (rfl : kdI 371 = 13)) rfl rfl (by decide +kernel) ⟨rfl, rfl⟩ (Nat.le_of_ble_eq_true rfl) w_329 dJ5_setLength_d00df_73 (fun H locs hI => ?_)
        obtain ⟨M_8, e_9⟩ : ∃ z : Mem, z = up2 M 371 2 1 := ⟨_, rfl⟩
        rw [← e_9] at hI
        have hf := lt_at e_9 hf
        refine lv_aload_n C0.1 C0.2.1 dJ5_setLength_d00df_76 rfl (lv_at hl 0 rfl) ?_
        refine lv_iload_n C0.1 C0.2.1 dJ5_setLength_d00df_77 rfl (lv_at hl 1 rfl) ?_
        refine r_putA (C := RJ4) (T := TJ4) (N9 := 4) (ci := 1) (fs := fS r 371) (ty := .int) C0 C1 hI iJ4 tyJ4 tyJ4_ok nmJ4 rfl 371 3 (kdlt13 (rfl : kdI 371 = 13)) (by decide) (shI_13 (rfl : kdI 371 = 13)) rfl rfl (by decide +kernel) ⟨rfl, rfl⟩ (Nat.le_of_ble_eq_true rfl) w_331 dJ5_setLength_d00df_78 (fun H locs hI => ?_)
        obtain ⟨M_10, e_11⟩ : ∃ z : Mem, z = up2 M_8 371 3 x1 := ⟨_, rfl⟩
        rw [← e_11] at hI
        have hf := lt_at e_11 hf
        exact ee_vm C0 hI hr hlocks hf dJ5_setLength_d00df_81
    · have hf := (if_neg c_4).symm.trans hf
      exact nomatch hf
  · have hf := (if_neg c_1).symm.trans hf
    exact nomatch hf

def F_J4_setLength_d00df_t (n : Nat) (T : Mem) (x1 : Int32) (M : Mem) : Option Mem :=
  ob (F_J5_setLength_d00df_t n T x1 M) (fun M_2 => some M_2)
theorem hd_J4_setLength_d00df : yJ4_setLength_d00df.cls ≠ "java/lang/invoke/MethodHandle" ∧ yJ4_setLength_d00df.cls ≠ "java/lang/invoke/VarHandle" ∧ (parseMethodDescriptor yJ4_setLength_d00df.desc).map (fun d => d.parameters.length) = some 1 := ⟨by decide +kernel, by decide +kernel, by decide +kernel⟩
set_option maxHeartbeats 4000000 in
set_option maxRecDepth 100000 in
theorem c_J4_setLength_d00df_t (l : Launch) (g : GG) (X : va_W) (r : Nat → Nat) (b : Nat → Nat) (sz n : Nat) (M : Mem) (T : Mem) (x1 : Int32)  {M' : Mem} (hf : F_J4_setLength_d00df_t n T x1 M = some M') : Met l yJ4_setLength_d00df (.code yJ4_setLength_d00df cJ4_setLength_d00df 2 none :: LWg) (rmD 2 0 0) (va_Pc [.ref (b 370), .int x1] (PreP g (xb g r T ++ X) 372 (shI g r b) b sz M)) (Qv g (xb g r T ++ X) 372 (shI g r b) b sz M') 0 0 (AA (xb g r T ++ X) b 372 sz) := by
  refine met_go (by decide +kernel) rfl (Nat.le_of_ble_eq_true rfl) ?_
  intro p e s m below meth c ls H locs C0 C1 hr hlocks hnm hsz hl hI
  subst hsz
  have hl : lv_has ls 2 [(0, .ref (b 370)), (1, .int x1)] := hl
  unfold F_J4_setLength_d00df_t at hf
  refine lv_aload_n C0.1 C0.2.1 dJ4_setLength_d00df_0 rfl (lv_at hl 0 rfl) ?_
  refine lv_iload_n C0.1 C0.2.1 dJ4_setLength_d00df_1 rfl (lv_at hl 1 rfl) ?_
  obtain ⟨M_2, h_1, hf⟩ := ob_some hf
  refine k_v C1 hI (q_SU C0 C1 hI 370 (c_J5_setLength_d00df_t l g X r b H.size n M T x1 h_1) w_1147 w_1805 w_340 w_1148 w_80 w_1149 ⟨rfl, rfl⟩ ⟨by decide, hd_J5_setLength_d00df.2.2⟩ ⟨Nat.le_of_ble_eq_true rfl, Nat.le_of_ble_eq_true rfl⟩ (kdlt13 (rfl : kdI 370 = 13)) (shI_13 (rfl : kdI 370 = 13) _) rfl rfl hl.1 rfl (Nat.le_of_ble_eq_true rfl) dJ4_setLength_d00df_2 ⟨Nat.le_of_ble_eq_true rfl, Nat.le_of_ble_eq_true rfl⟩) (fun H locs hI => ?_)
  exact ee_vm C0 hI hr hlocks hf dJ4_setLength_d00df_5

def F_J4_setLength_d00df_l (n : Nat) (T : Mem) (x1 : Int32) (M : Mem) : Option Mem :=
  ob (F_J5_setLength_d00df_l n T x1 M) (fun M_2 => some M_2)
set_option maxHeartbeats 4000000 in
set_option maxRecDepth 100000 in
theorem c_J4_setLength_d00df_l (l : Launch) (g : GG) (X : va_W) (r : Nat → Nat) (b : Nat → Nat) (sz n : Nat) (M : Mem) (T : Mem) (x1 : Int32)  {M' : Mem} (hf : F_J4_setLength_d00df_l n T x1 M = some M') : Met l yJ4_setLength_d00df (.code yJ4_setLength_d00df cJ4_setLength_d00df 2 none :: LWg) (rmD 2 0 0) (va_Pc [.ref (b 371), .int x1] (PreP g (xb g r T ++ X) 372 (shI g r b) b sz M)) (Qv g (xb g r T ++ X) 372 (shI g r b) b sz M') 0 0 (AA (xb g r T ++ X) b 372 sz) := by
  refine met_go (by decide +kernel) rfl (Nat.le_of_ble_eq_true rfl) ?_
  intro p e s m below meth c ls H locs C0 C1 hr hlocks hnm hsz hl hI
  subst hsz
  have hl : lv_has ls 2 [(0, .ref (b 371)), (1, .int x1)] := hl
  unfold F_J4_setLength_d00df_l at hf
  refine lv_aload_n C0.1 C0.2.1 dJ4_setLength_d00df_0 rfl (lv_at hl 0 rfl) ?_
  refine lv_iload_n C0.1 C0.2.1 dJ4_setLength_d00df_1 rfl (lv_at hl 1 rfl) ?_
  obtain ⟨M_2, h_1, hf⟩ := ob_some hf
  refine k_v C1 hI (q_SU C0 C1 hI 371 (c_J5_setLength_d00df_l l g X r b H.size n M T x1 h_1) w_1147 w_1805 w_340 w_1148 w_80 w_1149 ⟨rfl, rfl⟩ ⟨by decide, hd_J5_setLength_d00df.2.2⟩ ⟨Nat.le_of_ble_eq_true rfl, Nat.le_of_ble_eq_true rfl⟩ (kdlt13 (rfl : kdI 371 = 13)) (shI_13 (rfl : kdI 371 = 13) _) rfl rfl hl.1 rfl (Nat.le_of_ble_eq_true rfl) dJ4_setLength_d00df_2 ⟨Nat.le_of_ble_eq_true rfl, Nat.le_of_ble_eq_true rfl⟩) (fun H locs hI => ?_)
  exact ee_vm C0 hI hr hlocks hf dJ4_setLength_d00df_5
