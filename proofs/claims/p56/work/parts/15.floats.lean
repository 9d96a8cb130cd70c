/-! ===== floats and doubles ===== -/
def n32 (r : UInt32) : Bool := decide (r &&& 0x7fffffff ≤ 0x7f800000)
def n64 (r : UInt64) : Bool := decide (r &&& 0x7fffffffffffffff ≤ 0x7ff0000000000000)
theorem n32_n {r : UInt32} (h : n32 r = true) : vf_n32 r := of_decide_eq_true (p := r &&& 0x7fffffff ≤ 0x7f800000) h
theorem n64_n {r : UInt64} (h : n64 r = true) : vf_n64 r := of_decide_eq_true (p := r &&& 0x7fffffffffffffff ≤ 0x7ff0000000000000) h
section FLOATS
variable {p : Program} {l : Launch} {e : Env} {R : Room} {s : State} {m : MethodId} {args : Array Value} {below : List Frame} {meth : Method} {c : Code} {H : Heap} {locs : List Loc} {cells slots : Nat} {Q : State → Prop}
variable {cc : ByteArray} {nL : Nat} {own : String} {pc : Nat} {ls : Array Slot} {rest st0 : List Value} {g : GG} {X : va_W} {N : Nat} {sh : Shp} {b : Nat → Nat} {M M' : Mem} {mc ms : Nat} {av : Array Value}
abbrev Qf (g : GG) (X : va_W) (N : Nat) (sh : Shp) (b : Nat → Nat) (sz : Nat) (r0 : UInt32) (M' : Mem) : Array Value → State → Outcome → State → Prop := va_Qf (fun r (_ : Unit) => r = r0) (fun _ t => PoP g X N sh b M' t) (AA X b N sz)
abbrev QfX (g : GG) (X : va_W) (N : Nat) (sh : Shp) (b : Nat → Nat) (sz : Nat) (q0 : RX UInt32) (M' : Mem) : Array Value → State → Outcome → State → Prop := va_Qf (fun r (_ : Unit) => q0 = .inr r) (fun _ t => PoP g X N sh b M' t) (AA X b N sz)
theorem k_f (C1 : CX g X N sh b s) (hI : PI g X N sh b s M H locs) {r0 : UInt32} (run : va_Run p l e R s m args below meth c H locs cells slots mc ms (F0 m pc ls st0) rest (Qf g X N sh b H.size r0 M' av) (AA X b N H.size))
    (kk : ∀ (H : Heap) (locs : List Loc), PI g X N sh b s M' H locs → W p l e R s m args below meth c H locs (cells + mc) (slots + ms) Q (F0 m (pc + 3) ls (.float r0 :: rest))) : W p l e R s m args below meth c H locs cells slots Q (F0 m pc ls st0) :=
  va_callf run hI.2 (fun q _ h => CX.fr hI q h) (CX.fr hI) (fun r u t H1 locs1 ht hvm hp hb hz hk hS => by subst hp; exact kk H1 locs1 ⟨by rw [← ht]; exact hb, hS⟩)
theorem kx_f (C1 : CX g X N sh b s) (hI : PI g X N sh b s M H locs) {q0 : RX UInt32} (run : vx_Run p l e R s m args below meth c H locs cells slots mc ms (F0 m pc ls st0) rest (QfX g X N sh b H.size q0 M' av) (XcX g X N sh b H.size q0 M') (AA X b N H.size))
    (kx : ∀ (k : Nat) (H : Heap) (locs : List Loc) (ce : Cell) (q9 : Addr), q0 = .inl k → PI g X N sh b s M' H locs → H[q9]? = some ce → ce.vm = .none → s.vm.findClass (exN k) = some ce.cls → vx_W p l e R s m args below meth c H locs (cells + mc) (slots + ms) Q (F0 m pc ls rest) q9)
    (kk : ∀ (r : UInt32) (H : Heap) (locs : List Loc), q0 = .inr r → PI g X N sh b s M' H locs → W p l e R s m args below meth c H locs (cells + mc) (slots + ms) Q (F0 m (pc + 3) ls (.float r :: rest))) : W p l e R s m args below meth c H locs cells slots Q (F0 m pc ls st0) :=
  vx_callf run hI.2 (fun q _ h => CX.fr hI q h) (CX.fr hI) (fun q _ h => CX.fr hI q h)
    (fun E ce q9 u t H1 locs1 ht hvm hp hb hz hk hS h1 h2 h3 => by obtain ⟨⟨k, e1, rfl⟩, hb⟩ := hb; exact kx k H1 locs1 ce q9 e1 ⟨by rw [← ht]; exact hb, hS⟩ h1 h2 h3)
    (fun r u t H1 locs1 ht hvm hp hb hz hk hS => kk r H1 locs1 hp ⟨by rw [← ht]; exact hb, hS⟩)
theorem ee_fm (C0 : CallFix p m c cc nL s args LWg own) (hI : PI g X N sh b s M H locs) (hr : meth.sig.returnType = some .float) (hlocks : meth.locks = false) {v r0 : UInt32} (hf : some (v, M) = some (r0, M')) (hdg : decode cc pc = .ok (.freturn, 1)) : W p l e R s m args below meth c H locs cells slots (MQ below (Qf g X N sh b s.heap.size r0 M') args s cells slots (AA X b N s.heap.size)) (F0 m pc ls [.float v]) := by
  cases hf
  exact W.fret C0.1 C0.2.1 hr (fun t ht hW => ⟨⟨v, (), rfl, rfl, by show va_P _ _ _ t.heap; rw [ht]; exact hI.1⟩, hI.2.F ht⟩) hI.2.2.2 hdg hlocks
theorem ee_f (C0 : CallFix p m c cc nL s args LWg own) (hI : PI g X N sh b s M H locs) (hr : meth.sig.returnType = some .float) (hlocks : meth.locks = false) {v r0 : UInt32} (hf : some v = some r0) (hdg : decode cc pc = .ok (.freturn, 1)) : W p l e R s m args below meth c H locs cells slots (MQ below (Qf g X N sh b s.heap.size r0 M) args s cells slots (AA X b N s.heap.size)) (F0 m pc ls [.float v]) := by
  cases hf
  exact ee_fm C0 hI hr hlocks rfl hdg
theorem ex_fm {q0 : RX UInt32} {XC : String → State → State → Prop} (C0 : CallFix p m c cc nL s args LWg own) (hI : PI g X N sh b s M H locs) (hr : meth.sig.returnType = some .float) (hlocks : meth.locks = false) {v : UInt32} (hf : some ((.inr v : RX UInt32), M) = some (q0, M')) (hdg : decode cc pc = .ok (.freturn, 1)) : W p l e R s m args below meth c H locs cells slots (vx_MQ below (QfX g X N sh b s.heap.size q0 M') XC args s cells slots (AA X b N s.heap.size)) (F0 m pc ls [.float v]) := by
  cases hf
  exact vx_ret (W.fret C0.1 C0.2.1 hr (fun t ht hW => ⟨⟨v, (), rfl, rfl, by show va_P _ _ _ t.heap; rw [ht]; exact hI.1⟩, hI.2.F ht⟩) hI.2.2.2 hdg hlocks)
theorem ex_f {q0 : RX UInt32} {XC : String → State → State → Prop} (C0 : CallFix p m c cc nL s args LWg own) (hI : PI g X N sh b s M H locs) (hr : meth.sig.returnType = some .float) (hlocks : meth.locks = false) {v : UInt32} (hf : some (.inr v : RX UInt32) = some q0) (hdg : decode cc pc = .ok (.freturn, 1)) : W p l e R s m args below meth c H locs cells slots (vx_MQ below (QfX g X N sh b s.heap.size q0 M) XC args s cells slots (AA X b N s.heap.size)) (F0 m pc ls [.float v]) := by
  cases hf
  exact ex_fm C0 hI hr hlocks rfl hdg
abbrev Qd (g : GG) (X : va_W) (N : Nat) (sh : Shp) (b : Nat → Nat) (sz : Nat) (r0 : UInt64) (M' : Mem) : Array Value → State → Outcome → State → Prop := va_Qd (fun r (_ : Unit) => r = r0) (fun _ t => PoP g X N sh b M' t) (AA X b N sz)
abbrev QdX (g : GG) (X : va_W) (N : Nat) (sh : Shp) (b : Nat → Nat) (sz : Nat) (q0 : RX UInt64) (M' : Mem) : Array Value → State → Outcome → State → Prop := va_Qd (fun r (_ : Unit) => q0 = .inr r) (fun _ t => PoP g X N sh b M' t) (AA X b N sz)
theorem k_d (C1 : CX g X N sh b s) (hI : PI g X N sh b s M H locs) {r0 : UInt64} (run : va_Run p l e R s m args below meth c H locs cells slots mc ms (F0 m pc ls st0) rest (Qd g X N sh b H.size r0 M' av) (AA X b N H.size))
    (kk : ∀ (H : Heap) (locs : List Loc), PI g X N sh b s M' H locs → W p l e R s m args below meth c H locs (cells + mc) (slots + ms) Q (F0 m (pc + 3) ls (.double r0 :: rest))) : W p l e R s m args below meth c H locs cells slots Q (F0 m pc ls st0) :=
  va_calld run hI.2 (fun q _ h => CX.fr hI q h) (CX.fr hI) (fun r u t H1 locs1 ht hvm hp hb hz hk hS => by subst hp; exact kk H1 locs1 ⟨by rw [← ht]; exact hb, hS⟩)
theorem kx_d (C1 : CX g X N sh b s) (hI : PI g X N sh b s M H locs) {q0 : RX UInt64} (run : vx_Run p l e R s m args below meth c H locs cells slots mc ms (F0 m pc ls st0) rest (QdX g X N sh b H.size q0 M' av) (XcX g X N sh b H.size q0 M') (AA X b N H.size))
    (kx : ∀ (k : Nat) (H : Heap) (locs : List Loc) (ce : Cell) (q9 : Addr), q0 = .inl k → PI g X N sh b s M' H locs → H[q9]? = some ce → ce.vm = .none → s.vm.findClass (exN k) = some ce.cls → vx_W p l e R s m args below meth c H locs (cells + mc) (slots + ms) Q (F0 m pc ls rest) q9)
    (kk : ∀ (r : UInt64) (H : Heap) (locs : List Loc), q0 = .inr r → PI g X N sh b s M' H locs → W p l e R s m args below meth c H locs (cells + mc) (slots + ms) Q (F0 m (pc + 3) ls (.double r :: rest))) : W p l e R s m args below meth c H locs cells slots Q (F0 m pc ls st0) :=
  vx_calld run hI.2 (fun q _ h => CX.fr hI q h) (CX.fr hI) (fun q _ h => CX.fr hI q h)
    (fun E ce q9 u t H1 locs1 ht hvm hp hb hz hk hS h1 h2 h3 => by obtain ⟨⟨k, e1, rfl⟩, hb⟩ := hb; exact kx k H1 locs1 ce q9 e1 ⟨by rw [← ht]; exact hb, hS⟩ h1 h2 h3)
    (fun r u t H1 locs1 ht hvm hp hb hz hk hS => kk r H1 locs1 hp ⟨by rw [← ht]; exact hb, hS⟩)
theorem ee_dm (C0 : CallFix p m c cc nL s args LWg own) (hI : PI g X N sh b s M H locs) (hr : meth.sig.returnType = some .double) (hlocks : meth.locks = false) {v r0 : UInt64} (hf : some (v, M) = some (r0, M')) (hdg : decode cc pc = .ok (.dreturn, 1)) : W p l e R s m args below meth c H locs cells slots (MQ below (Qd g X N sh b s.heap.size r0 M') args s cells slots (AA X b N s.heap.size)) (F0 m pc ls [.double v]) := by
  cases hf
  exact W.dret C0.1 C0.2.1 hr (fun t ht hW => ⟨⟨v, (), rfl, rfl, by show va_P _ _ _ t.heap; rw [ht]; exact hI.1⟩, hI.2.F ht⟩) hI.2.2.2 hdg hlocks
theorem ee_d (C0 : CallFix p m c cc nL s args LWg own) (hI : PI g X N sh b s M H locs) (hr : meth.sig.returnType = some .double) (hlocks : meth.locks = false) {v r0 : UInt64} (hf : some v = some r0) (hdg : decode cc pc = .ok (.dreturn, 1)) : W p l e R s m args below meth c H locs cells slots (MQ below (Qd g X N sh b s.heap.size r0 M) args s cells slots (AA X b N s.heap.size)) (F0 m pc ls [.double v]) := by
  cases hf
  exact ee_dm C0 hI hr hlocks rfl hdg
theorem ex_dm {q0 : RX UInt64} {XC : String → State → State → Prop} (C0 : CallFix p m c cc nL s args LWg own) (hI : PI g X N sh b s M H locs) (hr : meth.sig.returnType = some .double) (hlocks : meth.locks = false) {v : UInt64} (hf : some ((.inr v : RX UInt64), M) = some (q0, M')) (hdg : decode cc pc = .ok (.dreturn, 1)) : W p l e R s m args below meth c H locs cells slots (vx_MQ below (QdX g X N sh b s.heap.size q0 M') XC args s cells slots (AA X b N s.heap.size)) (F0 m pc ls [.double v]) := by
  cases hf
  exact vx_ret (W.dret C0.1 C0.2.1 hr (fun t ht hW => ⟨⟨v, (), rfl, rfl, by show va_P _ _ _ t.heap; rw [ht]; exact hI.1⟩, hI.2.F ht⟩) hI.2.2.2 hdg hlocks)
theorem ex_d {q0 : RX UInt64} {XC : String → State → State → Prop} (C0 : CallFix p m c cc nL s args LWg own) (hI : PI g X N sh b s M H locs) (hr : meth.sig.returnType = some .double) (hlocks : meth.locks = false) {v : UInt64} (hf : some (.inr v : RX UInt64) = some q0) (hdg : decode cc pc = .ok (.dreturn, 1)) : W p l e R s m args below meth c H locs cells slots (vx_MQ below (QdX g X N sh b s.heap.size q0 M) XC args s cells slots (AA X b N s.heap.size)) (F0 m pc ls [.double v]) := by
  cases hf
  exact ex_dm C0 hI hr hlocks rfl hdg
end FLOATS
def F_X9_shareFor (n : Nat) (x1 : Int32) (M : Mem) : Option (RX UInt32) :=
  obx (F_X9_requireMotion n x1 M) (fun u_3 => chk (inb x1 6) (ob (F_X6_sumOfSide n (1 + 6 + 1 + 4 * ix x1) 1 M) (fun r_9 => ob (F_X6_sumOfSide n (1 + 6 + 1 + 4 * ix x1) 0 M) (fun r_11 => lt' (r_9 + r_11) (fun x4_12 => (if x4_12 = 0 then some (.inl 3) else chk (n32 (FP.fdiv (FP.i2f r_9) (FP.i2f x4_12))) (some (.inr (FP.fdiv (FP.i2f r_9) (FP.i2f x4_12))))))))))
theorem hd_X9_shareFor : yX9_shareFor.cls ≠ "java/lang/invoke/MethodHandle" ∧ yX9_shareFor.cls ≠ "java/lang/invoke/VarHandle" ∧ (parseMethodDescriptor yX9_shareFor.desc).map (fun d => d.parameters.length) = some 1 := ⟨by decide +kernel, by decide +kernel, by decide +kernel⟩
set_option maxHeartbeats 4000000 in
set_option maxRecDepth 100000 in
theorem c_X9_shareFor (l : Launch) (hl0 : l.stackTraces = false) (g : GG) (X : va_W) (r : Nat → Nat) (b : Nat → Nat) (sz n : Nat) (M : Mem) (x1 : Int32) {q0 : RX UInt32} (hf : F_X9_shareFor n x1 M = some q0) : vx_Met l yX9_shareFor (.code yX9_shareFor cX9_shareFor 5 (some .float) :: LWg) (rmD 11 2 12) (va_Pc [.ref (b 0), .int x1] (PreP g X 372 (shI g r b) b sz M)) (QfX g X 372 (shI g r b) b sz q0 M) (XcX g X 372 (shI g r b) b sz q0 M) 2 12 (AA X b 372 sz) := by
  refine metx_go (by decide +kernel) rfl (Nat.le_of_ble_eq_true rfl) ?_
  intro p e s m below meth c ls H locs C0 C1 hr hlocks hno hsz hl hI
  subst hsz
  have hl : lv_has ls 5 [(0, .ref (b 0)), (1, .int x1)] := hl
  unfold F_X9_shareFor at hf
  refine lv_aload_n C0.1 C0.2.1 dX9_shareFor_0 rfl (lv_at hl 0 rfl) ?_
  refine lv_iload_n C0.1 C0.2.1 dX9_shareFor_1 rfl (lv_at hl 1 rfl) ?_
  obtain ⟨q_4, h_2, h_5, h_6⟩ := obx_x hf
  refine kx_v C1 hI (qx_V C0 C1 hI 0 (c_X9_requireMotion l hl0 g X r b H.size n M x1 h_2) w_411 w_413 w_2 w_71 w_414 ⟨rfl, rfl⟩ hd_X9_requireMotion ⟨Nat.le_of_ble_eq_true rfl, Nat.le_of_ble_eq_true rfl⟩ (kdlt0 (rfl : kdI 0 = 0)) ((shI_0 (rfl : kdI 0 = 0)) _) rfl rfl rfl hl.1 rfl (Nat.le_of_ble_eq_true rfl) dX9_shareFor_2 ⟨Nat.le_of_ble_eq_true rfl, Nat.le_of_ble_eq_true rfl⟩) (fun k H locs ce q9 e1 hI g1 g2 g3 => x_out hno hlocks hI g1 g2 g3 (h_5 k e1) (Nat.le_of_ble_eq_true rfl) (Nat.le_of_ble_eq_true rfl)) (fun u_3 H locs e1 hI => ?_)
  have hf := h_6 u_3 e1
  refine lv_aload_n C0.1 C0.2.1 dX9_shareFor_5 rfl (lv_at hl 0 rfl) ?_
  refine r_get (C := RX9) (T := TX9) (N9 := 11) (ci := 10) C0 C1 hI iX9 rfl 0 0 (kdlt0 (rfl : kdI 0 = 0)) (by decide) ((shI_0 (rfl : kdI 0 = 0)) _) rfl rfl w_342 dX9_shareFor_6 ?_
  refine r_getN (C := RX2) (T := TX2) (N9 := 12) (ci := 4) C0 C1 hI iX2 rfl 1 9 (kdlt1 (rfl : kdI 1 = 1)) (by decide) ((shI_1 (rfl : kdI 1 = 1)) _) rfl rfl 29 rfl dX9_shareFor_9 ?_
  refine lv_iload_n C0.1 C0.2.1 dX9_shareFor_12 rfl (lv_at hl 1 rfl) ?_
  obtain ⟨h_7, hf⟩ := chk_some hf
  refine r_aald (t0 := 1) C0 C1 hI (1 + 6) (kdlt4 (kd1_6 (rfl : kdI 1 = 1))) (shI_4 (kd1_6 (rfl : kdI 1 = 1))) rfl h_7 rfl dX9_shareFor_13 ?_
  refine lv_astore_n (lv' := [(2, .ref (b (1 + 6 + 1 + 4 * ix x1))), (0, .ref (b 0)), (1, .int x1)]) C0.1 C0.2.1 dX9_shareFor_14 rfl hl (by decide) rfl (fun ls hl => ?_)
  refine lv_aload_n C0.1 C0.2.1 dX9_shareFor_15 rfl (lv_at hl 0 rfl) ?_
  refine lv_iconst (v := 1) C0.1 C0.2.1 dX9_shareFor_16 (by decide) ?_
  obtain ⟨r_9, h_8, hf⟩ := ob_some hf
  refine k_i C1 hI (q_VN C0 C1 hI (1 + 6 + 1 + 4 * ix x1) (c_X6_sumOfSide l g X r b H.size n M (1 + 6 + 1 + 4 * ix x1) (kd4_i (kd1_6 (rfl : kdI 1 = 1)) h_7) 1 h_8) 14 rfl w_640 w_13 w_73 w_641 ⟨rfl, rfl⟩ hd_X6_sumOfSide ⟨Nat.le_of_ble_eq_true rfl, Nat.le_of_ble_eq_true rfl⟩ (kdlt5 (kd4_i (kd1_6 (rfl : kdI 1 = 1)) h_7)) ((shI_5 (kd4_i (kd1_6 (rfl : kdI 1 = 1)) h_7)) _) rfl rfl rfl hl.1 rfl (Nat.le_of_ble_eq_true rfl) dX9_shareFor_17 ⟨Nat.le_of_ble_eq_true rfl, Nat.le_of_ble_eq_true rfl⟩) (fun H locs hI => ?_)
  refine lv_istore_n (lv' := [(3, .int r_9), (2, .ref (b (1 + 6 + 1 + 4 * ix x1))), (0, .ref (b 0)), (1, .int x1)]) C0.1 C0.2.1 dX9_shareFor_20 rfl hl (by decide) rfl (fun ls hl => ?_)
  refine lv_iload_n C0.1 C0.2.1 dX9_shareFor_21 rfl (lv_at hl 0 rfl) ?_
  refine lv_aload_n C0.1 C0.2.1 dX9_shareFor_22 rfl (lv_at hl 1 rfl) ?_
  refine lv_iconst (v := 0) C0.1 C0.2.1 dX9_shareFor_23 (by decide) ?_
  obtain ⟨r_11, h_10, hf⟩ := ob_some hf
  refine k_i C1 hI (q_VN C0 C1 hI (1 + 6 + 1 + 4 * ix x1) (c_X6_sumOfSide l g X r b H.size n M (1 + 6 + 1 + 4 * ix x1) (kd4_i (kd1_6 (rfl : kdI 1 = 1)) h_7) 0 h_10) 14 rfl w_640 w_13 w_73 w_641 ⟨rfl, rfl⟩ hd_X6_sumOfSide ⟨Nat.le_of_ble_eq_true rfl, Nat.le_of_ble_eq_true rfl⟩ (kdlt5 (kd4_i (kd1_6 (rfl : kdI 1 = 1)) h_7)) ((shI_5 (kd4_i (kd1_6 (rfl : kdI 1 = 1)) h_7)) _) rfl rfl rfl hl.1 rfl (Nat.le_of_ble_eq_true rfl) dX9_shareFor_24 ⟨Nat.le_of_ble_eq_true rfl, Nat.le_of_ble_eq_true rfl⟩) (fun H locs hI => ?_)
  refine lv_iadd C0.1 C0.2.1 dX9_shareFor_27 ?_
  refine lv_topi (fun x4_12 e_13 => ?_)
  have hf := lt_at e_13 hf
  refine lv_istore (lv' := [(4, .int x4_12), (3, .int r_9), (2, .ref (b (1 + 6 + 1 + 4 * ix x1))), (0, .ref (b 0)), (1, .int x1)]) C0.1 C0.2.1 dX9_shareFor_28 hl (by decide) rfl (fun ls hl => ?_)
  refine lv_iload C0.1 C0.2.1 dX9_shareFor_30 (lv_at hl 0 rfl) ?_
  refine lv_if_ne (tgt := 46) C0.1 C0.2.1 dX9_shareFor_32 (by decide) (fun c_14 => ?_) (fun c_14 => ?_)
  · have hf := (if_neg c_14).symm.trans hf
    refine lv_iload_n C0.1 C0.2.1 dX9_shareFor_46 rfl (lv_at hl 1 rfl) ?_
    refine lv_i2f C0.1 C0.2.1 dX9_shareFor_47 ?_
    refine lv_iload C0.1 C0.2.1 dX9_shareFor_48 (lv_at hl 0 rfl) ?_
    refine lv_i2f C0.1 C0.2.1 dX9_shareFor_50 ?_
    obtain ⟨h_15, hf⟩ := chk_some hf
    refine lv_fdiv C0.1 C0.2.1 dX9_shareFor_51 (n32_n h_15) ?_
    refine W.widen (k := 2) (n := 12) (Nat.le_of_ble_eq_true rfl) (Nat.le_of_ble_eq_true rfl) ?_
    exact ex_f C0 hI hr hlocks hf dX9_shareFor_52
  · have hf := (if_pos c_14).symm.trans hf
    exact r_throwW C0 C1 hI hl0 hl.1 hno hlocks (E := 3) (sk := 22) rfl (by decide +kernel) (by decide +kernel) w_946 w_104 at_AE ag_AE dX9_shareFor_35 dX9_shareFor_38 dX9_shareFor_39 dX9_shareFor_42 dX9_shareFor_45 (Nat.le_of_ble_eq_true rfl) (Nat.le_of_ble_eq_true rfl) (Nat.le_of_ble_eq_true rfl) (Nat.le_of_ble_eq_true rfl) hf (Nat.le_of_ble_eq_true rfl) (Nat.le_of_ble_eq_true rfl)

def F_X9_meanSittingWeight (n : Nat) (M : Mem) : Option (RX UInt64) :=
  ob (F_J6_bitCount_0f7a4 n (M 1 5) M) (fun r_2 => (if r_2 = 0 then some (.inl 3) else ob (F_X2_weightOfSet n 1 (M 1 5) M) (fun r_5 => chk (n64 (FP.ddiv (FP.i2d r_5) (FP.i2d r_2))) (some (.inr (FP.ddiv (FP.i2d r_5) (FP.i2d r_2)))))))
theorem hd_X9_meanSittingWeight : yX9_meanSittingWeight.cls ≠ "java/lang/invoke/MethodHandle" ∧ yX9_meanSittingWeight.cls ≠ "java/lang/invoke/VarHandle" ∧ (parseMethodDescriptor yX9_meanSittingWeight.desc).map (fun d => d.parameters.length) = some 0 := ⟨by decide +kernel, by decide +kernel, by decide +kernel⟩
set_option maxHeartbeats 4000000 in
set_option maxRecDepth 100000 in
theorem c_X9_meanSittingWeight (l : Launch) (hl0 : l.stackTraces = false) (g : GG) (X : va_W) (r : Nat → Nat) (b : Nat → Nat) (sz n : Nat) (M : Mem) {q0 : RX UInt64} (hf : F_X9_meanSittingWeight n M = some q0) : vx_Met l yX9_meanSittingWeight (.code yX9_meanSittingWeight cX9_meanSittingWeight 2 (some .double) :: LWg) (rmD 8 1 6) (va_Pc [.ref (b 0)] (PreP g X 372 (shI g r b) b sz M)) (QdX g X 372 (shI g r b) b sz q0 M) (XcX g X 372 (shI g r b) b sz q0 M) 1 6 (AA X b 372 sz) := by
  refine metx_go (by decide +kernel) rfl (Nat.le_of_ble_eq_true rfl) ?_
  intro p e s m below meth c ls H locs C0 C1 hr hlocks hno hsz hl hI
  subst hsz
  have hl : lv_has ls 2 [(0, .ref (b 0))] := hl
  unfold F_X9_meanSittingWeight at hf
  refine lv_aload_n C0.1 C0.2.1 dX9_meanSittingWeight_0 rfl (lv_at hl 0 rfl) ?_
  refine r_get (C := RX9) (T := TX9) (N9 := 11) (ci := 10) C0 C1 hI iX9 rfl 0 0 (kdlt0 (rfl : kdI 0 = 0)) (by decide) ((shI_0 (rfl : kdI 0 = 0)) _) rfl rfl w_342 dX9_meanSittingWeight_1 ?_
  refine r_getN (C := RX2) (T := TX2) (N9 := 12) (ci := 4) C0 C1 hI iX2 rfl 1 5 (kdlt1 (rfl : kdI 1 = 1)) (by decide) ((shI_1 (rfl : kdI 1 = 1)) _) rfl rfl 26 rfl dX9_meanSittingWeight_4 ?_
  obtain ⟨r_2, h_1, hf⟩ := ob_some hf
  refine k_i C1 hI (q_S C0 C1 hI (c_J6_bitCount_0f7a4 l g X r b H.size n M (M 1 5) h_1) w_406 w_397 w_98 w_398 ⟨rfl, rfl⟩ hd_J6_bitCount_0f7a4 ⟨Nat.le_of_ble_eq_true rfl, Nat.le_of_ble_eq_true rfl⟩ rfl hl.1 rfl (Nat.le_of_ble_eq_true rfl) dX9_meanSittingWeight_7 ⟨Nat.le_of_ble_eq_true rfl, Nat.le_of_ble_eq_true rfl⟩) (fun H locs hI => ?_)
  refine lv_istore_n (lv' := [(1, .int r_2), (0, .ref (b 0))]) C0.1 C0.2.1 dX9_meanSittingWeight_10 rfl hl (by decide) rfl (fun ls hl => ?_)
  refine lv_iload_n C0.1 C0.2.1 dX9_meanSittingWeight_11 rfl (lv_at hl 0 rfl) ?_
  refine lv_if_ne (tgt := 26) C0.1 C0.2.1 dX9_meanSittingWeight_12 (by decide) (fun c_3 => ?_) (fun c_3 => ?_)
  · have hf := (if_neg c_3).symm.trans hf
    refine lv_aload_n C0.1 C0.2.1 dX9_meanSittingWeight_26 rfl (lv_at hl 1 rfl) ?_
    refine r_get (C := RX9) (T := TX9) (N9 := 11) (ci := 10) C0 C1 hI iX9 rfl 0 0 (kdlt0 (rfl : kdI 0 = 0)) (by decide) ((shI_0 (rfl : kdI 0 = 0)) _) rfl rfl w_342 dX9_meanSittingWeight_27 ?_
    refine lv_aload_n C0.1 C0.2.1 dX9_meanSittingWeight_30 rfl (lv_at hl 1 rfl) ?_
    refine r_get (C := RX9) (T := TX9) (N9 := 11) (ci := 10) C0 C1 hI iX9 rfl 0 0 (kdlt0 (rfl : kdI 0 = 0)) (by decide) ((shI_0 (rfl : kdI 0 = 0)) _) rfl rfl w_342 dX9_meanSittingWeight_31 ?_
    refine r_getN (C := RX2) (T := TX2) (N9 := 12) (ci := 4) C0 C1 hI iX2 rfl 1 5 (kdlt1 (rfl : kdI 1 = 1)) (by decide) ((shI_1 (rfl : kdI 1 = 1)) _) rfl rfl 26 rfl dX9_meanSittingWeight_34 ?_
    obtain ⟨r_5, h_4, hf⟩ := ob_some hf
    refine k_i C1 hI (q_VN C0 C1 hI 1 (c_X2_weightOfSet l g X r b H.size n M 1 (rfl : kdI 1 = 1) (M 1 5) h_4) 48 rfl w_1379 w_62 w_72 w_1380 ⟨rfl, rfl⟩ hd_X2_weightOfSet ⟨Nat.le_of_ble_eq_true rfl, Nat.le_of_ble_eq_true rfl⟩ (kdlt1 (rfl : kdI 1 = 1)) ((shI_1 (rfl : kdI 1 = 1)) _) rfl rfl rfl hl.1 rfl (Nat.le_of_ble_eq_true rfl) dX9_meanSittingWeight_37 ⟨Nat.le_of_ble_eq_true rfl, Nat.le_of_ble_eq_true rfl⟩) (fun H locs hI => ?_)
    refine lv_i2d C0.1 C0.2.1 dX9_meanSittingWeight_40 ?_
    refine lv_iload_n C0.1 C0.2.1 dX9_meanSittingWeight_41 rfl (lv_at hl 0 rfl) ?_
    refine lv_i2d C0.1 C0.2.1 dX9_meanSittingWeight_42 ?_
    obtain ⟨h_6, hf⟩ := chk_some hf
    refine lv_ddiv C0.1 C0.2.1 dX9_meanSittingWeight_43 (n64_n h_6) ?_
    refine W.widen (k := 1) (n := 6) (Nat.le_of_ble_eq_true rfl) (Nat.le_of_ble_eq_true rfl) ?_
    exact ex_d C0 hI hr hlocks hf dX9_meanSittingWeight_44
  · have hf := (if_pos c_3).symm.trans hf
    exact r_throwW C0 C1 hI hl0 hl.1 hno hlocks (E := 3) (sk := 30) rfl (by decide +kernel) (by decide +kernel) w_946 w_104 at_AE ag_AE dX9_meanSittingWeight_15 dX9_meanSittingWeight_18 dX9_meanSittingWeight_19 dX9_meanSittingWeight_22 dX9_meanSittingWeight_25 (Nat.le_of_ble_eq_true rfl) (Nat.le_of_ble_eq_true rfl) (Nat.le_of_ble_eq_true rfl) (Nat.le_of_ble_eq_true rfl) hf (Nat.le_of_ble_eq_true rfl) (Nat.le_of_ble_eq_true rfl)
