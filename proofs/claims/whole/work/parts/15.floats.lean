/-! ===== floats and doubles ===== -/
def n32 (r : UInt32) : Bool := decide (r &&& 0x7fffffff ≤ 0x7f800000)
def n64 (r : UInt64) : Bool := decide (r &&& 0x7fffffffffffffff ≤ 0x7ff0000000000000)
theorem n32_n {r : UInt32} (h : n32 r = true) : vf_n32 r := of_decide_eq_true (p := r &&& 0x7fffffff ≤ 0x7f800000) h
theorem n64_n {r : UInt64} (h : n64 r = true) : vf_n64 r := of_decide_eq_true (p := r &&& 0x7fffffffffffffff ≤ 0x7ff0000000000000) h
section FLOATS
variable {p : Program} {l : Launch} {e : Env} {R : Room} {s : State} {m : MethodId} {args : Array Value} {below : List Frame} {meth : Method} {c : Code} {H : Heap} {locs : List Loc} {cells slots : Nat} {Q : State → Prop}
variable {cc : ByteArray} {nL : Nat} {own : String} {pc : Nat} {ls : Array Slot} {rest st0 : List Value} {g : GG} {X : va_W} {N : Nat} {sh : Shp} {b : Nat → Nat} {M M' : Mem} {mc ms : Nat} {av : Array Value}
abbrev Qf (g : GG) (X : va_W) (N : Nat) (sh : Shp) (b : Nat → Nat) (sz : Nat) (r0 : UInt32) (M' : Mem) : Array Value → State → Outcome → State → Prop := va_Qf (fun r (_ : Unit) => r = r0) (fun _ t => PoP g X N sh b M' t) (AA X b N sz)
abbrev QfX (g : GG) (X : va_W) (N : Nat) (sh : Shp) (b : Nat → Nat) (sz : Nat) (q0 : RX UInt32) (M' : Mem) : Array Value → State → Outcome → State → Prop := va_Qf (fun r (_ : Unit) => q0 = .inr r) (fun _ t => PoP g X N sh b M' t) (AA X b N sz)
theorem k_f (C1 : CX g X N sh b s) (hI : PI g X N sh b s M H locs) {r0 : UInt32} (run : va_Run p l e R s m args below meth c H locs cells slots mc ms (F0 m pc ls st0) rest (Qf g X N sh b H.size r0 M' av) (AA X b N H.size))
    (kk : ∀ (H : Heap) (locs : List Loc), PI g X N sh b s M' H locs → W p l e R s m args below meth c H locs (cells + mc) (slots + ms) Q (F0 m (pc + 3) ls (.float r0 :: rest))) : W p l e R s m args below meth c H locs cells slots Q (F0 m pc ls st0) :=
  va_callf run hI.2 (fun q _ h => CX.fr hI q h) (CX.fr hI) (fun r u t H1 locs1 ht hvm hp hb hz hk hS => by subst hp; exact kk H1 locs1 ⟨by rw [← ht]; exact hb, hS⟩)
theorem kx_f (C1 : CX g X N sh b s) (hI : PI g X N sh b s M H locs) {q0 : RX UInt32} (run : vx_Run p l e R s m args below meth c H locs cells slots mc ms (F0 m pc ls st0) rest (QfX g X N sh b H.size q0 M' av) (XcX g X N sh b H.size q0 M') (AA X b N H.size))
    (kx : ∀ (k : Nat) (H : Heap) (locs : List Loc) (ce : Cell) (q9 : Addr), q0 = .inl k → PI g X N sh b s M' H locs → H[q9]? = some ce → ce.vm = .none → s.vm.findClass (exN k) = some ce.cls → vx_W p l e R s m args below meth c H locs (cells + mc) (slots + ms) Q (F0 m pc ls rest) q9)
    (kk : ∀ (r : UInt32) (H : Heap) (locs : List Loc), q0 = .inr r → PI g X N sh b s M' H locs → W p l e R s m args below meth c H locs (cells + mc) (slots + ms) Q (F0 m (pc + 3) ls (.float r :: rest))) : W p l e R s m args below meth c H locs cells slots Q (F0 m pc ls st0) :=
  vx_callf run hI.2 (fun q _ h => CX.fr hI q h) (CX.fr hI) (fun q _ h => CX.fr hI q h)
    (fun E ce q9 u t H1 locs1 ht hvm hp hb hz hk hS h1 h2 h3 => by obtain ⟨⟨k, e1, rfl⟩, hb⟩ := hb; exact kx k H1 locs1 ce q9 e1 ⟨by rw [← ht]; exact hb, hS⟩ h1 h2 h3)
    (fun r u t H1 locs1 ht hvm hp hb hz hk hS => kk r H1 locs1 hp ⟨by rw [← ht]; exact hb, hS⟩)
theorem ee_fm (C0 : CallFix p m c cc nL s args LWg own) (hI : PI g X N sh b s M H locs) (hr : meth.sig.returnType = some .float) (hlocks : meth.locks = false) {v r0 : UInt32} (hf : some (v, M) = some (r0, M')) (hdg : decode cc pc = .ok (.freturn, 1)) : W p l e R s m args below meth c H locs cells slots (MQ below (Qf g X N sh b s.heap.size r0 M') args s cells slots (AA X b N s.heap.size)) (F0 m pc ls [.float v]) := by
  cases hf
  exact W.fret C0.1 C0.2.1 hr (fun t ht hW => ⟨⟨v, (), rfl, rfl, by show va_P _ _ _ t.heap; rw [ht]; exact hI.1⟩, hI.2.F ht⟩) hI.2.2.2 hdg hlocks
theorem ee_f (C0 : CallFix p m c cc nL s args LWg own) (hI : PI g X N sh b s M H locs) (hr : meth.sig.returnType = some .float) (hlocks : meth.locks = false) {v r0 : UInt32} (hf : some v = some r0) (hdg : decode cc pc = .ok (.freturn, 1)) : W p l e R s m args below meth c H locs cells slots (MQ below (Qf g X N sh b s.heap.size r0 M) args s cells slots (AA X b N s.heap.size)) (F0 m pc ls [.float v]) := by
  cases hf
  exact ee_fm C0 hI hr hlocks rfl hdg
theorem ex_fm {q0 : RX UInt32} {XC : String → State → State → Prop} (C0 : CallFix p m c cc nL s args LWg own) (hI : PI g X N sh b s M H locs) (hr : meth.sig.returnType = some .float) (hlocks : meth.locks = false) {v : UInt32} (hf : some ((.inr v : RX UInt32), M) = some (q0, M')) (hdg : decode cc pc = .ok (.freturn, 1)) : W p l e R s m args below meth c H locs cells slots (vx_MQ below (QfX g X N sh b s.heap.size q0 M') XC args s cells slots (AA X b N s.heap.size)) (F0 m pc ls [.float v]) := by
  cases hf
  exact vx_ret (W.fret C0.1 C0.2.1 hr (fun t ht hW => ⟨⟨v, (), rfl, rfl, by show va_P _ _ _ t.heap; rw [ht]; exact hI.1⟩, hI.2.F ht⟩) hI.2.2.2 hdg hlocks)
theorem ex_f {q0 : RX UInt32} {XC : String → State → State → Prop} (C0 : CallFix p m c cc nL s args LWg own) (hI : PI g X N sh b s M H locs) (hr : meth.sig.returnType = some .float) (hlocks : meth.locks = false) {v : UInt32} (hf : some (.inr v : RX UInt32) = some q0) (hdg : decode cc pc = .ok (.freturn, 1)) : W p l e R s m args below meth c H locs cells slots (vx_MQ below (QfX g X N sh b s.heap.size q0 M) XC args s cells slots (AA X b N s.heap.size)) (F0 m pc ls [.float v]) := by
  cases hf
  exact ex_fm C0 hI hr hlocks rfl hdg
abbrev Qd (g : GG) (X : va_W) (N : Nat) (sh : Shp) (b : Nat → Nat) (sz : Nat) (r0 : UInt64) (M' : Mem) : Array Value → State → Outcome → State → Prop := va_Qd (fun r (_ : Unit) => r = r0) (fun _ t => PoP g X N sh b M' t) (AA X b N sz)
abbrev QdX (g : GG) (X : va_W) (N : Nat) (sh : Shp) (b : Nat → Nat) (sz : Nat) (q0 : RX UInt64) (M' : Mem) : Array Value → State → Outcome → State → Prop := va_Qd (fun r (_ : Unit) => q0 = .inr r) (fun _ t => PoP g X N sh b M' t) (AA X b N sz)
theorem k_d (C1 : CX g X N sh b s) (hI : PI g X N sh b s M H locs) {r0 : UInt64} (run : va_Run p l e R s m args below meth c H locs cells slots mc ms (F0 m pc ls st0) rest (Qd g X N sh b H.size r0 M' av) (AA X b N H.size))
    (kk : ∀ (H : Heap) (locs : List Loc), PI g X N sh b s M' H locs → W p l e R s m args below meth c H locs (cells + mc) (slots + ms) Q (F0 m (pc + 3) ls (.double r0 :: rest))) : W p l e R s m args below meth c H locs cells slots Q (F0 m pc ls st0) :=
  va_calld run hI.2 (fun q _ h => CX.fr hI q h) (CX.fr hI) (fun r u t H1 locs1 ht hvm hp hb hz hk hS => by subst hp; exact kk H1 locs1 ⟨by rw [← ht]; exact hb, hS⟩)
theorem kx_d (C1 : CX g X N sh b s) (hI : PI g X N sh b s M H locs) {q0 : RX UInt64} (run : vx_Run p l e R s m args below meth c H locs cells slots mc ms (F0 m pc ls st0) rest (QdX g X N sh b H.size q0 M' av) (XcX g X N sh b H.size q0 M') (AA X b N H.size))
    (kx : ∀ (k : Nat) (H : Heap) (locs : List Loc) (ce : Cell) (q9 : Addr), q0 = .inl k → PI g X N sh b s M' H locs → H[q9]? = some ce → ce.vm = .none → s.vm.findClass (exN k) = some ce.cls → vx_W p l e R s m args below meth c H locs (cells + mc) (slots + ms) Q (F0 m pc ls rest) q9)
    (kk : ∀ (r : UInt64) (H : Heap) (locs : List Loc), q0 = .inr r → PI g X N sh b s M' H locs → W p l e R s m args below meth c H locs (cells + mc) (slots + ms) Q (F0 m (pc + 3) ls (.double r :: rest))) : W p l e R s m args below meth c H locs cells slots Q (F0 m pc ls st0) :=
  vx_calld run hI.2 (fun q _ h => CX.fr hI q h) (CX.fr hI) (fun q _ h => CX.fr hI q h)
    (fun E ce q9 u t H1 locs1 ht hvm hp hb hz hk hS h1 h2 h3 => by obtain ⟨⟨k, e1, rfl⟩, hb⟩ := hb; exact kx k H1 locs1 ce q9 e1 ⟨by rw [← ht]; exact hb, hS⟩ h1 h2 h3)
    (fun r u t H1 locs1 ht hvm hp hb hz hk hS => kk r H1 locs1 hp ⟨by rw [← ht]; exact hb, hS⟩)
theorem ee_dm (C0 : CallFix p m c cc nL s args LWg own) (hI : PI g X N sh b s M H locs) (hr : meth.sig.returnType = some .double) (hlocks : meth.locks = false) {v r0 : UInt64} (hf : some (v, M) = some (r0, M')) (hdg : decode cc pc = .ok (.dreturn, 1)) : W p l e R s m args below meth c H locs cells slots (MQ below (Qd g X N sh b s.heap.size r0 M') args s cells slots (AA X b N s.heap.size)) (F0 m pc ls [.double v]) := by
  cases hf
  exact W.dret C0.1 C0.2.1 hr (fun t ht hW => ⟨⟨v, (), rfl, rfl, by show va_P _ _ _ t.heap; rw [ht]; exact hI.1⟩, hI.2.F ht⟩) hI.2.2.2 hdg hlocks
theorem ee_d (C0 : CallFix p m c cc nL s args LWg own) (hI : PI g X N sh b s M H locs) (hr : meth.sig.returnType = some .double) (hlocks : meth.locks = false) {v r0 : UInt64} (hf : some v = some r0) (hdg : decode cc pc = .ok (.dreturn, 1)) : W p l e R s m args below meth c H locs cells slots (MQ below (Qd g X N sh b s.heap.size r0 M) args s cells slots (AA X b N s.heap.size)) (F0 m pc ls [.double v]) := by
  cases hf
  exact ee_dm C0 hI hr hlocks rfl hdg
theorem ex_dm {q0 : RX UInt64} {XC : String → State → State → Prop} (C0 : CallFix p m c cc nL s args LWg own) (hI : PI g X N sh b s M H locs) (hr : meth.sig.returnType = some .double) (hlocks : meth.locks = false) {v : UInt64} (hf : some ((.inr v : RX UInt64), M) = some (q0, M')) (hdg : decode cc pc = .ok (.dreturn, 1)) : W p l e R s m args below meth c H locs cells slots (vx_MQ below (QdX g X N sh b s.heap.size q0 M') XC args s cells slots (AA X b N s.heap.size)) (F0 m pc ls [.double v]) := by
  cases hf
  exact vx_ret (W.dret C0.1 C0.2.1 hr (fun t ht hW => ⟨⟨v, (), rfl, rfl, by show va_P _ _ _ t.heap; rw [ht]; exact hI.1⟩, hI.2.F ht⟩) hI.2.2.2 hdg hlocks)
theorem ex_d {q0 : RX UInt64} {XC : String → State → State → Prop} (C0 : CallFix p m c cc nL s args LWg own) (hI : PI g X N sh b s M H locs) (hr : meth.sig.returnType = some .double) (hlocks : meth.locks = false) {v : UInt64} (hf : some (.inr v : RX UInt64) = some q0) (hdg : decode cc pc = .ok (.dreturn, 1)) : W p l e R s m args below meth c H locs cells slots (vx_MQ below (QdX g X N sh b s.heap.size q0 M) XC args s cells slots (AA X b N s.heap.size)) (F0 m pc ls [.double v]) := by
  cases hf
  exact ex_dm C0 hI hr hlocks rfl hdg
end FLOATS
def F_X9_shareFor (n : Nat) (x1 : Int32) (M : Mem) : Option (RX UInt32) :=
  obx (F_X9_requireMotion n x1 M) (fun u_3 => chk (inb x1 6) (ob (F_X6_sumOfSide n (1 + 6 + 1 + 4 * ix x1) 1 M) (fun r_9 => ob (F_X6_sumOfSide n (1 + 6 + 1 + 4 * ix x1) 0 M) (fun r_11 => lt' (r_9 + r_11) (fun x4_12 => (if x4_12 = 0 then some (.inl 3) else chk (n32 (FP.fdiv (FP.i2f r_9) (FP.i2f x4_12))) (some (.inr (FP.fdiv (FP.i2f r_9) (FP.i2f x4_12))))))))))
theorem hd_X9_shareFor : yX9_shareFor.cls ≠ "java/lang/invoke/MethodHandle" ∧ yX9_shareFor.cls ≠ "java/lang/invoke/VarHandle" ∧ (parseMethodDescriptor yX9_shareFor.desc).map (fun d => d.parameters.length) = some 1 := ⟨by decide +kernel, by decide +kernel, by decide +kernel⟩
set_option maxHeartbeats 4000000 in
set_option maxRecDepth 100000 in
theorem c_X9_shareFor (l : Launch) (hl0 : l.stackTraces = false) (g : GG) (X : va_W) (r : Nat → Nat) (b : Nat → Nat) (sz n : Nat) (M : Mem) (x1 : Int32) {q0 : RX UInt32} (hf : F_X9_shareFor n x1 M = some q0) : vx_Met l yX9_shareFor (.code yX9_shareFor cX9_shareFor 5 (some .float) :: LWg) (rmD 11 2 12) (va_Pc [.ref (b 0), .int x1] (PreP g X 372 (shI g r b) b sz M)) (QfX g X 372 (shI g r b) b sz q0 M) (XcX g X 372 (shI g r b) b sz q0 M) 2 12 (AA X b 372 sz) := by
  refine metx_go (by decide +kernel) rfl (Nat.le_of_ble_eq_true rfl) ?_
  intro p e s m below meth c ls H locs C0 C1 hr hlocks hno hsz hl hI
  subst hsz
  have hl : lv_has ls 5 [(0, .ref (b 0)), (1, .int x1)] := hl
  unfold F_X9_shareFor at hf
  refine lv_aload_n C0.1 C0.2.1 dX9_shareFor_0 rfl (lv_at hl 0 rfl) ?_
  refine lv_iload_n C0.1 C0.2.1 dX9_shareFor_1 rfl (lv_at hl 1 rfl) ?_
  obtain ⟨q_4, h_2, h_5, h_6⟩ := obx_x hf
  refine kx_v C1 hI (qx_V C0 C1 hI 0 (c_X9_requireMotion l hl0 g X r b H.size n M x1 h_2) w_481 w_483 w_2 w_119 w_484 ⟨rfl, rfl⟩ hd_X9_requireMotion ⟨Nat.le_of_ble_eq_true rfl, Nat.le_of_ble_eq_true rfl⟩ (kdlt0 (rfl : kdI 0 = 0)) ((shI_0 (rfl : kdI 0 = 0)) _) rfl rfl rfl hl.1 rfl (Nat.le_of_ble_eq_true rfl) dX9_shareFor_2 ⟨Nat.le_of_ble_eq_true rfl, Nat.le_of_ble_eq_true rfl⟩) (fun k H locs ce q9 e1 hI g1 g2 g3 => x_out hno hlocks hI g1 g2 g3 (h_5 k e1) (Nat.le_of_ble_eq_true rfl) (Nat.le_of_ble_eq_true rfl)) (fun u_3 H locs e1 hI => ?_)
  have hf := h_6 u_3 e1
  refine lv_aload_n C0.1 C0.2.1 dX9_shareFor_5 rfl (lv_at hl 0 rfl) ?_
  refine r_get (C := RX9) (T := TX9) (N9 := 11) (ci := 10) C0 C1 hI iX9 rfl 0 0 (kdlt0 (rfl : kdI 0 = 0)) (by decide) ((shI_0 (rfl : kdI 0 = 0)) _) rfl rfl w_390 dX9_shareFor_6 ?_
  refine r_getN (C := RX2) (T := TX2) (N9 := 12) (ci := 4) C0 C1 hI iX2 rfl 1 9 (kdlt1 (rfl : kdI 1 = 1)) (by decide) ((shI_1 (rfl : kdI 1 = 1)) _) rfl rfl 29 rfl dX9_shareFor_9 ?_
  refine lv_iload_n C0.1 C0.2.1 dX9_shareFor_12 rfl (lv_at hl 1 rfl) ?_
  obtain ⟨h_7, hf⟩ := chk_some hf
  refine r_aald (t0 := 1) C0 C1 hI (1 + 6) (kdlt4 (kd1_6 (rfl : kdI 1 = 1))) (shI_4 (kd1_6 (rfl : kdI 1 = 1))) rfl h_7 rfl dX9_shareFor_13 ?_
  refine lv_astore_n (lv' := [(2, .ref (b (1 + 6 + 1 + 4 * ix x1))), (0, .ref (b 0)), (1, .int x1)]) C0.1 C0.2.1 dX9_shareFor_14 rfl hl (by decide) rfl (fun ls hl => ?_)
  refine lv_aload_n C0.1 C0.2.1 dX9_shareFor_15 rfl (lv_at hl 0 rfl) ?_
  refine lv_iconst (v := 1) C0.1 C0.2.1 dX9_shareFor_16 (by decide) ?_
  obtain ⟨r_9, h_8, hf⟩ := ob_some hf
  refine k_i C1 hI (q_VN C0 C1 hI (1 + 6 + 1 + 4 * ix x1) (c_X6_sumOfSide l g X r b H.size n M (1 + 6 + 1 + 4 * ix x1) (kd4_i (kd1_6 (rfl : kdI 1 = 1)) h_7) 1 h_8) 14 rfl w_710 w_13 w_121 w_711 ⟨rfl, rfl⟩ hd_X6_sumOfSide ⟨Nat.le_of_ble_eq_true rfl, Nat.le_of_ble_eq_true rfl⟩ (kdlt5 (kd4_i (kd1_6 (rfl : kdI 1 = 1)) h_7)) ((shI_5 (kd4_i (kd1_6 (rfl : kdI 1 = 1)) h_7)) _) rfl rfl rfl hl.1 rfl (Nat.le_of_ble_eq_true rfl) dX9_shareFor_17 ⟨Nat.le_of_ble_eq_true rfl, Nat.le_of_ble_eq_true rfl⟩) (fun H locs hI => ?_)
  refine lv_istore_n (lv' := [(3, .int r_9), (2, .ref (b (1 + 6 + 1 + 4 * ix x1))), (0, .ref (b 0)), (1, .int x1)]) C0.1 C0.2.1 dX9_shareFor_20 rfl hl (by decide) rfl (fun ls hl => ?_)
  refine lv_iload_n C0.1 C0.2.1 dX9_shareFor_21 rfl (lv_at hl 0 rfl) ?_
  refine lv_aload_n C0.1 C0.2.1 dX9_shareFor_22 rfl (lv_at hl 1 rfl) ?_
  refine lv_iconst (v := 0) C0.1 C0.2.1 dX9_shareFor_23 (by decide) ?_
  obtain ⟨r_11, h_10, hf⟩ := ob_some hf
  refine k_i C1 hI (q_VN C0 C1 hI (1 + 6 + 1 + 4 * ix x1) (c_X6_sumOfSide l g X r b H.size n M (1 + 6 + 1 + 4 * ix x1) (kd4_i (kd1_6 (rfl : kdI 1 = 1)) h_7) 0 h_10) 14 rfl w_710 w_13 w_121 w_711 ⟨rfl, rfl⟩ hd_X6_sumOfSide ⟨Nat.le_of_ble_eq_true rfl, Nat.le_of_ble_eq_true rfl⟩ (kdlt5 (kd4_i (kd1_6 (rfl : kdI 1 = 1)) h_7)) ((shI_5 (kd4_i (kd1_6 (rfl : kdI 1 = 1)) h_7)) _) rfl rfl rfl hl.1 rfl (Nat.le_of_ble_eq_true rfl) dX9_shareFor_24 ⟨Nat.le_of_ble_eq_true rfl, Nat.le_of_ble_eq_true rfl⟩) (fun H locs hI => ?_)
  refine lv_iadd C0.1 C0.2.1 dX9_shareFor_27 ?_
  refine lv_topi (fun x4_12 e_13 => ?_)
  have hf := lt_at e_13 hf
  refine lv_istore (lv' := [(4, .int x4_12), (3, .int r_9), (2, .ref (b (1 + 6 + 1 + 4 * ix x1))), (0, .ref (b 0)), (1, .int x1)]) C0.1 C0.2.1 dX9_shareFor_28 hl (by decide) rfl (fun ls hl => ?_)
  refine lv_iload C0.1 C0.2.1 dX9_shareFor_30 (lv_at hl 0 rfl) ?_
  refine lv_if_ne (tgt := 46) C0.1 C0.2.1 dX9_shareFor_32 (by decide) (fun c_14 => ?_) (fun c_14 => ?_)
  · have hf := (if_neg c_14).symm.trans hf
    refine lv_iload_n C0.1 C0.2.1 dX9_shareFor_46 rfl (lv_at hl 1 rfl) ?_
    refine lv_i2f C0.1 C0.2.1 dX9_shareFor_47 ?_
    refine lv_iload C0.1 C0.2.1 dX9_shareFor_48 (lv_at hl 0 rfl) ?_
    refine lv_i2f C0.1 C0.2.1 dX9_shareFor_50 ?_
    obtain ⟨h_15, hf⟩ := chk_some hf
    refine lv_fdiv C0.1 C0.2.1 dX9_shareFor_51 (n32_n h_15) ?_
    refine W.widen (k := 2) (n := 12) (Nat.le_of_ble_eq_true rfl) (Nat.le_of_ble_eq_true rfl) ?_
    exact ex_f C0 hI hr hlocks hf dX9_shareFor_52
  · have hf := (if_pos c_14).symm.trans hf
    exact r_throwW C0 C1 hI hl0 hl.1 hno hlocks (E := 3) (sk := 22) rfl (by decide +kernel) (by decide +kernel) w_1220 w_147 at_AE ag_AE dX9_shareFor_35 dX9_shareFor_38 dX9_shareFor_39 dX9_shareFor_42 dX9_shareFor_45 (Nat.le_of_ble_eq_true rfl) (Nat.le_of_ble_eq_true rfl) (Nat.le_of_ble_eq_true rfl) (Nat.le_of_ble_eq_true rfl) hf (Nat.le_of_ble_eq_true rfl) (Nat.le_of_ble_eq_true rfl)

def F_X9_meanSittingWeight (n : Nat) (M : Mem) : Option (RX UInt64) :=
  ob (F_J6_bitCount_0f7a4 n (M 1 5) M) (fun r_2 => (if r_2 = 0 then some (.inl 3) else ob (F_X2_weightOfSet n 1 (M 1 5) M) (fun r_5 => chk (n64 (FP.ddiv (FP.i2d r_5) (FP.i2d r_2))) (some (.inr (FP.ddiv (FP.i2d r_5) (FP.i2d r_2)))))))
theorem hd_X9_meanSittingWeight : yX9_meanSittingWeight.cls ≠ "java/lang/invoke/MethodHandle" ∧ yX9_meanSittingWeight.cls ≠ "java/lang/invoke/VarHandle" ∧ (parseMethodDescriptor yX9_meanSittingWeight.desc).map (fun d => d.parameters.length) = some 0 := ⟨by decide +kernel, by decide +kernel, by decide +kernel⟩
set_option maxHeartbeats 4000000 in
set_option maxRecDepth 100000 in
theorem c_X9_meanSittingWeight (l : Launch) (hl0 : l.stackTraces = false) (g : GG) (X : va_W) (r : Nat → Nat) (b : Nat → Nat) (sz n : Nat) (M : Mem) {q0 : RX UInt64} (hf : F_X9_meanSittingWeight n M = some q0) : vx_Met l yX9_meanSittingWeight (.code yX9_meanSittingWeight cX9_meanSittingWeight 2 (some .double) :: LWg) (rmD 8 1 6) (va_Pc [.ref (b 0)] (PreP g X 372 (shI g r b) b sz M)) (QdX g X 372 (shI g r b) b sz q0 M) (XcX g X 372 (shI g r b) b sz q0 M) 1 6 (AA X b 372 sz) := by
  refine metx_go (by decide +kernel) rfl (Nat.le_of_ble_eq_true rfl) ?_
  intro p e s m below meth c ls H locs C0 C1 hr hlocks hno hsz hl hI
  subst hsz
  have hl : lv_has ls 2 [(0, .ref (b 0))] := hl
  unfold F_X9_meanSittingWeight at hf
  refine lv_aload_n C0.1 C0.2.1 dX9_meanSittingWeight_0 rfl (lv_at hl 0 rfl) ?_
  refine r_get (C := RX9) (T := TX9) (N9 := 11) (ci := 10) C0 C1 hI iX9 rfl 0 0 (kdlt0 (rfl : kdI 0 = 0)) (by decide) ((shI_0 (rfl : kdI 0 = 0)) _) rfl rfl w_390 dX9_meanSittingWeight_1 ?_
  refine r_getN (C := RX2) (T := TX2) (N9 := 12) (ci := 4) C0 C1 hI iX2 rfl 1 5 (kdlt1 (rfl : kdI 1 = 1)) (by decide) ((shI_1 (rfl : kdI 1 = 1)) _) rfl rfl 26 rfl dX9_meanSittingWeight_4 ?_
  obtain ⟨r_2, h_1, hf⟩ := ob_some hf
  refine k_i C1 hI (q_S C0 C1 hI (c_J6_bitCount_0f7a4 l g X r b H.size n M (M 1 5) h_1) w_454 w_445 w_146 w_446 ⟨rfl, rfl⟩ hd_J6_bitCount_0f7a4 ⟨Nat.le_of_ble_eq_true rfl, Nat.le_of_ble_eq_true rfl⟩ rfl hl.1 rfl (Nat.le_of_ble_eq_true rfl) dX9_meanSittingWeight_7 ⟨Nat.le_of_ble_eq_true rfl, Nat.le_of_ble_eq_true rfl⟩) (fun H locs hI => ?_)
  refine lv_istore_n (lv' := [(1, .int r_2), (0, .ref (b 0))]) C0.1 C0.2.1 dX9_meanSittingWeight_10 rfl hl (by decide) rfl (fun ls hl => ?_)
  refine lv_iload_n C0.1 C0.2.1 dX9_meanSittingWeight_11 rfl (lv_at hl 0 rfl) ?_
  refine lv_if_ne (tgt := 26) C0.1 C0.2.1 dX9_meanSittingWeight_12 (by decide) (fun c_3 => ?_) (fun c_3 => ?_)
  · have hf := (if_neg c_3).symm.trans hf
    refine lv_aload_n C0.1 C0.2.1 dX9_meanSittingWeight_26 rfl (lv_at hl 1 rfl) ?_
    refine r_get (C := RX9) (T := TX9) (N9 := 11) (ci := 10) C0 C1 hI iX9 rfl 0 0 (kdlt0 (rfl : kdI 0 = 0)) (by decide) ((shI_0 (rfl : kdI 0 = 0)) _) rfl rfl w_390 dX9_meanSittingWeight_27 ?_
    refine lv_aload_n C0.1 C0.2.1 dX9_meanSittingWeight_30 rfl (lv_at hl 1 rfl) ?_
    refine r_get (C := RX9) (T := TX9) (N9 := 11) (ci := 10) C0 C1 hI iX9 rfl 0 0 (kdlt0 (rfl : kdI 0 = 0)) (by decide) ((shI_0 (rfl : kdI 0 = 0)) _) rfl rfl w_390 dX9_meanSittingWeight_31 ?_
    refine r_getN (C := RX2) (T := TX2) (N9 := 12) (ci := 4) C0 C1 hI iX2 rfl 1 5 (kdlt1 (rfl : kdI 1 = 1)) (by decide) ((shI_1 (rfl : kdI 1 = 1)) _) rfl rfl 26 rfl dX9_meanSittingWeight_34 ?_
    obtain ⟨r_5, h_4, hf⟩ := ob_some hf
    refine k_i C1 hI (q_VN C0 C1 hI 1 (c_X2_weightOfSet l g X r b H.size n M 1 (rfl : kdI 1 = 1) (M 1 5) h_4) 33 rfl w_917 w_32 w_120 w_918 ⟨rfl, rfl⟩ hd_X2_weightOfSet ⟨Nat.le_of_ble_eq_true rfl, Nat.le_of_ble_eq_true rfl⟩ (kdlt1 (rfl : kdI 1 = 1)) ((shI_1 (rfl : kdI 1 = 1)) _) rfl rfl rfl hl.1 rfl (Nat.le_of_ble_eq_true rfl) dX9_meanSittingWeight_37 ⟨Nat.le_of_ble_eq_true rfl, Nat.le_of_ble_eq_true rfl⟩) (fun H locs hI => ?_)
    refine lv_i2d C0.1 C0.2.1 dX9_meanSittingWeight_40 ?_
    refine lv_iload_n C0.1 C0.2.1 dX9_meanSittingWeight_41 rfl (lv_at hl 0 rfl) ?_
    refine lv_i2d C0.1 C0.2.1 dX9_meanSittingWeight_42 ?_
    obtain ⟨h_6, hf⟩ := chk_some hf
    refine lv_ddiv C0.1 C0.2.1 dX9_meanSittingWeight_43 (n64_n h_6) ?_
    refine W.widen (k := 1) (n := 6) (Nat.le_of_ble_eq_true rfl) (Nat.le_of_ble_eq_true rfl) ?_
    exact ex_d C0 hI hr hlocks hf dX9_meanSittingWeight_44
  · have hf := (if_pos c_3).symm.trans hf
    exact r_throwW C0 C1 hI hl0 hl.1 hno hlocks (E := 3) (sk := 30) rfl (by decide +kernel) (by decide +kernel) w_1220 w_147 at_AE ag_AE dX9_meanSittingWeight_15 dX9_meanSittingWeight_18 dX9_meanSittingWeight_19 dX9_meanSittingWeight_22 dX9_meanSittingWeight_25 (Nat.le_of_ble_eq_true rfl) (Nat.le_of_ble_eq_true rfl) (Nat.le_of_ble_eq_true rfl) (Nat.le_of_ble_eq_true rfl) hf (Nat.le_of_ble_eq_true rfl) (Nat.le_of_ble_eq_true rfl)

def F_X10_shareFor (n : Nat) (x1 : Int32) (M : Mem) : Option (UInt32 × Mem) :=
  ob (F_X10_isMotion n x1 M) (fun r_2 => (if r_2 = 0 then lt' (up2 M 0 0 1) (fun M_28 => (if (M_28 0 0) = 0 then ob (F_X10_sum n x1 1 M_28) (fun r_32 => ob (F_X10_sum n x1 1 M_28) (fun r_34 => ob (F_X10_sum n x1 0 M_28) (fun r_36 => chk (n32 (FP.fdiv (FP.i2f r_32) (FP.i2f (r_34 + r_36)))) (some (FP.fdiv (FP.i2f r_32) (FP.i2f (r_34 + r_36)), M_28))))) else some (FP.fconst0, M_28))) else ob (F_X10_of n x1 7 M) (fun r_5 => chk (inb r_5 407) ((if (M 1 (ix r_5)) = 0 then lt' (up2 M 0 0 2) (fun M_18 => (if (M_18 0 0) = 0 then ob (F_X10_sum n x1 1 M_18) (fun r_22 => ob (F_X10_sum n x1 1 M_18) (fun r_24 => ob (F_X10_sum n x1 0 M_18) (fun r_26 => chk (n32 (FP.fdiv (FP.i2f r_22) (FP.i2f (r_24 + r_26)))) (some (FP.fdiv (FP.i2f r_22) (FP.i2f (r_24 + r_26)), M_18))))) else some (FP.fconst0, M_18))) else lt' (up2 M 0 0 0) (fun M_8 => (if (M_8 0 0) = 0 then ob (F_X10_sum n x1 1 M_8) (fun r_12 => ob (F_X10_sum n x1 1 M_8) (fun r_14 => ob (F_X10_sum n x1 0 M_8) (fun r_16 => chk (n32 (FP.fdiv (FP.i2f r_12) (FP.i2f (r_14 + r_16)))) (some (FP.fdiv (FP.i2f r_12) (FP.i2f (r_14 + r_16)), M_8))))) else some (FP.fconst0, M_8))))))))
theorem hd_X10_shareFor : yX10_shareFor.cls ≠ "java/lang/invoke/MethodHandle" ∧ yX10_shareFor.cls ≠ "java/lang/invoke/VarHandle" ∧ (parseMethodDescriptor yX10_shareFor.desc).map (fun d => d.parameters.length) = some 1 := ⟨by decide +kernel, by decide +kernel, by decide +kernel⟩
set_option maxHeartbeats 4000000 in
set_option maxRecDepth 100000 in
theorem c_X10_shareFor (l : Launch) (g : GG) (X : va_W) (b : Nat → Nat) (sz n : Nat) (M : Mem) (x1 : Int32) {r0 : UInt32} {M' : Mem} (hf : F_X10_shareFor n x1 M = some (r0, M')) : Met l yX10_shareFor (.code yX10_shareFor cX10_shareFor 2 (some .float) :: LWg) (rmD 3 0 0) (va_Pc [.ref (b 0), .int x1] (PreP g X 10 (shM g b) b sz M)) (Qf g X 10 (shM g b) b sz r0 M') 0 0 (AA X b 10 sz) := by
  refine met_go (by decide +kernel) rfl (Nat.le_of_ble_eq_true rfl) ?_
  intro p e s m below meth c ls H locs C0 C1 hr hlocks hnm hsz hl hI
  subst hsz
  have hl : lv_has ls 2 [(0, .ref (b 0)), (1, .int x1)] := hl
  unfold F_X10_shareFor at hf
  refine lv_aload_n C0.1 C0.2.1 dX10_shareFor_0 rfl (lv_at hl 0 rfl) ?_
  refine lv_aload_n C0.1 C0.2.1 dX10_shareFor_1 rfl (lv_at hl 0 rfl) ?_
  refine lv_iload_n C0.1 C0.2.1 dX10_shareFor_2 rfl (lv_at hl 1 rfl) ?_
  obtain ⟨r_2, h_1, hf⟩ := ob_some hf
  refine k_i C1 hI (q_V C0 C1 hI 0 (c_X10_isMotion l g X b H.size n M x1 h_1) w_1893 w_1895 w_86 w_132 w_1896 ⟨rfl, rfl⟩ hd_X10_isMotion ⟨Nat.le_of_ble_eq_true rfl, Nat.le_of_ble_eq_true rfl⟩ (Nat.le_of_ble_eq_true rfl) ((fun _ => rfl) _) rfl rfl rfl hl.1 rfl (Nat.le_of_ble_eq_true rfl) dX10_shareFor_3 ⟨Nat.le_of_ble_eq_true rfl, Nat.le_of_ble_eq_true rfl⟩) (fun H locs hI => ?_)
  refine lv_if_ne (tgt := 13) C0.1 C0.2.1 dX10_shareFor_6 (by decide) (fun c_3 => ?_) (fun c_3 => ?_)
  · have hf := (if_neg c_3).symm.trans hf
    refine lv_aload_n C0.1 C0.2.1 dX10_shareFor_13 rfl (lv_at hl 0 rfl) ?_
    refine r_get (C := RX10) (T := TX10) (N9 := 20) (ci := 11) C0 C1 hI iX10 rfl 0 5 (Nat.le_of_ble_eq_true rfl) (by decide) ((fun _ => rfl) _) rfl rfl w_1696 dX10_shareFor_14 ?_
    refine lv_iload_n C0.1 C0.2.1 dX10_shareFor_17 rfl (lv_at hl 1 rfl) ?_
    refine lv_bipush (v := 7) C0.1 C0.2.1 dX10_shareFor_18 (by decide) ?_
    obtain ⟨r_5, h_4, hf⟩ := ob_some hf
    refine k_i C1 hI (q_S C0 C1 hI (c_X10_of l g X b H.size n M x1 7 h_4) w_1878 w_1879 w_132 w_1880 ⟨rfl, rfl⟩ hd_X10_of ⟨Nat.le_of_ble_eq_true rfl, Nat.le_of_ble_eq_true rfl⟩ rfl hl.1 rfl (Nat.le_of_ble_eq_true rfl) dX10_shareFor_20 ⟨Nat.le_of_ble_eq_true rfl, Nat.le_of_ble_eq_true rfl⟩) (fun H locs hI => ?_)
    obtain ⟨h_6, hf⟩ := chk_some hf
    refine r_iald C0 C1 hI 1 (Nat.le_of_ble_eq_true rfl) (fun _ => rfl) h_6 dX10_shareFor_23 ?_
    refine lv_if_ne (tgt := 31) C0.1 C0.2.1 dX10_shareFor_24 (by decide) (fun c_7 => ?_) (fun c_7 => ?_)
    · have hf := (if_neg c_7).symm.trans hf
      refine lv_iconst (v := 0) C0.1 C0.2.1 dX10_shareFor_31 (by decide) ?_
      refine r_put (C := RX10) (T := TX10) (N9 := 20) (ci := 11) (fs := fM b) (ty := .int) C0 C1 hI iX10 tyX10 tyX10_ok nmX10 rfl 0 0 (Nat.le_of_ble_eq_true rfl) (by decide) (fun _ => rfl) rfl rfl rfl (by decide +kernel) ⟨rfl, rfl⟩ (Nat.le_of_ble_eq_true rfl) w_1691 dX10_shareFor_32 (fun H locs hI => ?_)
      obtain ⟨M_8, e_9⟩ : ∃ z : Mem, z = up2 M 0 0 0 := ⟨_, rfl⟩
      rw [← e_9] at hI
      have hf := lt_at e_9 hf
      refine lv_aload_n C0.1 C0.2.1 dX10_shareFor_35 rfl (lv_at hl 0 rfl) ?_
      refine r_get (C := RX10) (T := TX10) (N9 := 20) (ci := 11) C0 C1 hI iX10 rfl 0 0 (Nat.le_of_ble_eq_true rfl) (by decide) ((fun _ => rfl) _) rfl rfl w_1691 dX10_shareFor_36 ?_
      refine lv_if_ne (tgt := 67) C0.1 C0.2.1 dX10_shareFor_39 (by decide) (fun c_10 => ?_) (fun c_10 => ?_)
      · have hf := (if_neg c_10).symm.trans hf
        refine lv_fconst0 C0.1 C0.2.1 dX10_shareFor_67 ?_
        exact ee_fm C0 hI hr hlocks hf dX10_shareFor_68
      · have hf := (if_pos c_10).symm.trans hf
        refine lv_aload_n C0.1 C0.2.1 dX10_shareFor_42 rfl (lv_at hl 0 rfl) ?_
        refine lv_iload_n C0.1 C0.2.1 dX10_shareFor_43 rfl (lv_at hl 1 rfl) ?_
        refine lv_iconst (v := 1) C0.1 C0.2.1 dX10_shareFor_44 (by decide) ?_
        obtain ⟨r_12, h_11, hf⟩ := ob_some hf
        refine k_i C1 hI (q_V C0 C1 hI 0 (c_X10_sum l g X b H.size n M_8 x1 1 h_11) w_2028 w_2030 w_103 w_132 w_2031 ⟨rfl, rfl⟩ hd_X10_sum ⟨Nat.le_of_ble_eq_true rfl, Nat.le_of_ble_eq_true rfl⟩ (Nat.le_of_ble_eq_true rfl) ((fun _ => rfl) _) rfl rfl rfl hl.1 rfl (Nat.le_of_ble_eq_true rfl) dX10_shareFor_45 ⟨Nat.le_of_ble_eq_true rfl, Nat.le_of_ble_eq_true rfl⟩) (fun H locs hI => ?_)
        refine lv_i2f C0.1 C0.2.1 dX10_shareFor_48 ?_
        refine lv_aload_n C0.1 C0.2.1 dX10_shareFor_49 rfl (lv_at hl 0 rfl) ?_
        refine lv_iload_n C0.1 C0.2.1 dX10_shareFor_50 rfl (lv_at hl 1 rfl) ?_
        refine lv_iconst (v := 1) C0.1 C0.2.1 dX10_shareFor_51 (by decide) ?_
        obtain ⟨r_14, h_13, hf⟩ := ob_some hf
        refine k_i C1 hI (q_V C0 C1 hI 0 (c_X10_sum l g X b H.size n M_8 x1 1 h_13) w_2028 w_2030 w_103 w_132 w_2031 ⟨rfl, rfl⟩ hd_X10_sum ⟨Nat.le_of_ble_eq_true rfl, Nat.le_of_ble_eq_true rfl⟩ (Nat.le_of_ble_eq_true rfl) ((fun _ => rfl) _) rfl rfl rfl hl.1 rfl (Nat.le_of_ble_eq_true rfl) dX10_shareFor_52 ⟨Nat.le_of_ble_eq_true rfl, Nat.le_of_ble_eq_true rfl⟩) (fun H locs hI => ?_)
        refine lv_aload_n C0.1 C0.2.1 dX10_shareFor_55 rfl (lv_at hl 0 rfl) ?_
        refine lv_iload_n C0.1 C0.2.1 dX10_shareFor_56 rfl (lv_at hl 1 rfl) ?_
        refine lv_iconst (v := 0) C0.1 C0.2.1 dX10_shareFor_57 (by decide) ?_
        obtain ⟨r_16, h_15, hf⟩ := ob_some hf
        refine k_i C1 hI (q_V C0 C1 hI 0 (c_X10_sum l g X b H.size n M_8 x1 0 h_15) w_2028 w_2030 w_103 w_132 w_2031 ⟨rfl, rfl⟩ hd_X10_sum ⟨Nat.le_of_ble_eq_true rfl, Nat.le_of_ble_eq_true rfl⟩ (Nat.le_of_ble_eq_true rfl) ((fun _ => rfl) _) rfl rfl rfl hl.1 rfl (Nat.le_of_ble_eq_true rfl) dX10_shareFor_58 ⟨Nat.le_of_ble_eq_true rfl, Nat.le_of_ble_eq_true rfl⟩) (fun H locs hI => ?_)
        refine lv_iadd C0.1 C0.2.1 dX10_shareFor_61 ?_
        refine lv_i2f C0.1 C0.2.1 dX10_shareFor_62 ?_
        obtain ⟨h_17, hf⟩ := chk_some hf
        refine lv_fdiv C0.1 C0.2.1 dX10_shareFor_63 (n32_n h_17) ?_
        refine lv_goto (tgt := 68) C0.1 C0.2.1 dX10_shareFor_64 (by decide) ?_
        exact ee_fm C0 hI hr hlocks hf dX10_shareFor_68
    · have hf := (if_pos c_7).symm.trans hf
      refine lv_iconst (v := 2) C0.1 C0.2.1 dX10_shareFor_27 (by decide) ?_
      refine lv_goto (tgt := 32) C0.1 C0.2.1 dX10_shareFor_28 (by decide) ?_
      refine r_put (C := RX10) (T := TX10) (N9 := 20) (ci := 11) (fs := fM b) (ty := .int) C0 C1 hI iX10 tyX10 tyX10_ok nmX10 rfl 0 0 (Nat.le_of_ble_eq_true rfl) (by decide) (fun _ => rfl) rfl rfl rfl (by decide +kernel) ⟨rfl, rfl⟩ (Nat.le_of_ble_eq_true rfl) w_1691 dX10_shareFor_32 (fun H locs hI => ?_)
      obtain ⟨M_18, e_19⟩ : ∃ z : Mem, z = up2 M 0 0 2 := ⟨_, rfl⟩
      rw [← e_19] at hI
      have hf := lt_at e_19 hf
      refine lv_aload_n C0.1 C0.2.1 dX10_shareFor_35 rfl (lv_at hl 0 rfl) ?_
      refine r_get (C := RX10) (T := TX10) (N9 := 20) (ci := 11) C0 C1 hI iX10 rfl 0 0 (Nat.le_of_ble_eq_true rfl) (by decide) ((fun _ => rfl) _) rfl rfl w_1691 dX10_shareFor_36 ?_
      refine lv_if_ne (tgt := 67) C0.1 C0.2.1 dX10_shareFor_39 (by decide) (fun c_20 => ?_) (fun c_20 => ?_)
      · have hf := (if_neg c_20).symm.trans hf
        refine lv_fconst0 C0.1 C0.2.1 dX10_shareFor_67 ?_
        exact ee_fm C0 hI hr hlocks hf dX10_shareFor_68
      · have hf := (if_pos c_20).symm.trans hf
        refine lv_aload_n C0.1 C0.2.1 dX10_shareFor_42 rfl (lv_at hl 0 rfl) ?_
        refine lv_iload_n C0.1 C0.2.1 dX10_shareFor_43 rfl (lv_at hl 1 rfl) ?_
        refine lv_iconst (v := 1) C0.1 C0.2.1 dX10_shareFor_44 (by decide) ?_
        obtain ⟨r_22, h_21, hf⟩ := ob_some hf
        refine k_i C1 hI (q_V C0 C1 hI 0 (c_X10_sum l g X b H.size n M_18 x1 1 h_21) w_2028 w_2030 w_103 w_132 w_2031 ⟨rfl, rfl⟩ hd_X10_sum ⟨Nat.le_of_ble_eq_true rfl, Nat.le_of_ble_eq_true rfl⟩ (Nat.le_of_ble_eq_true rfl) ((fun _ => rfl) _) rfl rfl rfl hl.1 rfl (Nat.le_of_ble_eq_true rfl) dX10_shareFor_45 ⟨Nat.le_of_ble_eq_true rfl, Nat.le_of_ble_eq_true rfl⟩) (fun H locs hI => ?_)
        refine lv_i2f C0.1 C0.2.1 dX10_shareFor_48 ?_
        refine lv_aload_n C0.1 C0.2.1 dX10_shareFor_49 rfl (lv_at hl 0 rfl) ?_
        refine lv_iload_n C0.1 C0.2.1 dX10_shareFor_50 rfl (lv_at hl 1 rfl) ?_
        refine lv_iconst (v := 1) C0.1 C0.2.1 dX10_shareFor_51 (by decide) ?_
        obtain ⟨r_24, h_23, hf⟩ := ob_some hf
        refine k_i C1 hI (q_V C0 C1 hI 0 (c_X10_sum l g X b H.size n M_18 x1 1 h_23) w_2028 w_2030 w_103 w_132 w_2031 ⟨rfl, rfl⟩ hd_X10_sum ⟨Nat.le_of_ble_eq_true rfl, Nat.le_of_ble_eq_true rfl⟩ (Nat.le_of_ble_eq_true rfl) ((fun _ => rfl) _) rfl rfl rfl hl.1 rfl (Nat.le_of_ble_eq_true rfl) dX10_shareFor_52 ⟨Nat.le_of_ble_eq_true rfl, Nat.le_of_ble_eq_true rfl⟩) (fun H locs hI => ?_)
        refine lv_aload_n C0.1 C0.2.1 dX10_shareFor_55 rfl (lv_at hl 0 rfl) ?_
        refine lv_iload_n C0.1 C0.2.1 dX10_shareFor_56 rfl (lv_at hl 1 rfl) ?_
        refine lv_iconst (v := 0) C0.1 C0.2.1 dX10_shareFor_57 (by decide) ?_
        obtain ⟨r_26, h_25, hf⟩ := ob_some hf
        refine k_i C1 hI (q_V C0 C1 hI 0 (c_X10_sum l g X b H.size n M_18 x1 0 h_25) w_2028 w_2030 w_103 w_132 w_2031 ⟨rfl, rfl⟩ hd_X10_sum ⟨Nat.le_of_ble_eq_true rfl, Nat.le_of_ble_eq_true rfl⟩ (Nat.le_of_ble_eq_true rfl) ((fun _ => rfl) _) rfl rfl rfl hl.1 rfl (Nat.le_of_ble_eq_true rfl) dX10_shareFor_58 ⟨Nat.le_of_ble_eq_true rfl, Nat.le_of_ble_eq_true rfl⟩) (fun H locs hI => ?_)
        refine lv_iadd C0.1 C0.2.1 dX10_shareFor_61 ?_
        refine lv_i2f C0.1 C0.2.1 dX10_shareFor_62 ?_
        obtain ⟨h_27, hf⟩ := chk_some hf
        refine lv_fdiv C0.1 C0.2.1 dX10_shareFor_63 (n32_n h_27) ?_
        refine lv_goto (tgt := 68) C0.1 C0.2.1 dX10_shareFor_64 (by decide) ?_
        exact ee_fm C0 hI hr hlocks hf dX10_shareFor_68
  · have hf := (if_pos c_3).symm.trans hf
    refine lv_iconst (v := 1) C0.1 C0.2.1 dX10_shareFor_9 (by decide) ?_
    refine lv_goto (tgt := 32) C0.1 C0.2.1 dX10_shareFor_10 (by decide) ?_
    refine r_put (C := RX10) (T := TX10) (N9 := 20) (ci := 11) (fs := fM b) (ty := .int) C0 C1 hI iX10 tyX10 tyX10_ok nmX10 rfl 0 0 (Nat.le_of_ble_eq_true rfl) (by decide) (fun _ => rfl) rfl rfl rfl (by decide +kernel) ⟨rfl, rfl⟩ (Nat.le_of_ble_eq_true rfl) w_1691 dX10_shareFor_32 (fun H locs hI => ?_)
    obtain ⟨M_28, e_29⟩ : ∃ z : Mem, z = up2 M 0 0 1 := ⟨_, rfl⟩
    rw [← e_29] at hI
    have hf := lt_at e_29 hf
    refine lv_aload_n C0.1 C0.2.1 dX10_shareFor_35 rfl (lv_at hl 0 rfl) ?_
    refine r_get (C := RX10) (T := TX10) (N9 := 20) (ci := 11) C0 C1 hI iX10 rfl 0 0 (Nat.le_of_ble_eq_true rfl) (by decide) ((fun _ => rfl) _) rfl rfl w_1691 dX10_shareFor_36 ?_
    refine lv_if_ne (tgt := 67) C0.1 C0.2.1 dX10_shareFor_39 (by decide) (fun c_30 => ?_) (fun c_30 => ?_)
    · have hf := (if_neg c_30).symm.trans hf
      refine lv_fconst0 C0.1 C0.2.1 dX10_shareFor_67 ?_
      exact ee_fm C0 hI hr hlocks hf dX10_shareFor_68
    · have hf := (if_pos c_30).symm.trans hf
      refine lv_aload_n C0.1 C0.2.1 dX10_shareFor_42 rfl (lv_at hl 0 rfl) ?_
      refine lv_iload_n C0.1 C0.2.1 dX10_shareFor_43 rfl (lv_at hl 1 rfl) ?_
      refine lv_iconst (v := 1) C0.1 C0.2.1 dX10_shareFor_44 (by decide) ?_
      obtain ⟨r_32, h_31, hf⟩ := ob_some hf
      refine k_i C1 hI (q_V C0 C1 hI 0 (c_X10_sum l g X b H.size n M_28 x1 1 h_31) w_2028 w_2030 w_103 w_132 w_2031 ⟨rfl, rfl⟩ hd_X10_sum ⟨Nat.le_of_ble_eq_true rfl, Nat.le_of_ble_eq_true rfl⟩ (Nat.le_of_ble_eq_true rfl) ((fun _ => rfl) _) rfl rfl rfl hl.1 rfl (Nat.le_of_ble_eq_true rfl) dX10_shareFor_45 ⟨Nat.le_of_ble_eq_true rfl, Nat.le_of_ble_eq_true rfl⟩) (fun H locs hI => ?_)
      refine lv_i2f C0.1 C0.2.1 dX10_shareFor_48 ?_
      refine lv_aload_n C0.1 C0.2.1 dX10_shareFor_49 rfl (lv_at hl 0 rfl) ?_
      refine lv_iload_n C0.1 C0.2.1 dX10_shareFor_50 rfl (lv_at hl 1 rfl) ?_
      refine lv_iconst (v := 1) C0.1 C0.2.1 dX10_shareFor_51 (by decide) ?_
      obtain ⟨r_34, h_33, hf⟩ := ob_some hf
      refine k_i C1 hI (q_V C0 C1 hI 0 (c_X10_sum l g X b H.size n M_28 x1 1 h_33) w_2028 w_2030 w_103 w_132 w_2031 ⟨rfl, rfl⟩ hd_X10_sum ⟨Nat.le_of_ble_eq_true rfl, Nat.le_of_ble_eq_true rfl⟩ (Nat.le_of_ble_eq_true rfl) ((fun _ => rfl) _) rfl rfl rfl hl.1 rfl (Nat.le_of_ble_eq_true rfl) dX10_shareFor_52 ⟨Nat.le_of_ble_eq_true rfl, Nat.le_of_ble_eq_true rfl⟩) (fun H locs hI => ?_)
      refine lv_aload_n C0.1 C0.2.1 dX10_shareFor_55 rfl (lv_at hl 0 rfl) ?_
      refine lv_iload_n C0.1 C0.2.1 dX10_shareFor_56 rfl (lv_at hl 1 rfl) ?_
      refine lv_iconst (v := 0) C0.1 C0.2.1 dX10_shareFor_57 (by decide) ?_
      obtain ⟨r_36, h_35, hf⟩ := ob_some hf
      refine k_i C1 hI (q_V C0 C1 hI 0 (c_X10_sum l g X b H.size n M_28 x1 0 h_35) w_2028 w_2030 w_103 w_132 w_2031 ⟨rfl, rfl⟩ hd_X10_sum ⟨Nat.le_of_ble_eq_true rfl, Nat.le_of_ble_eq_true rfl⟩ (Nat.le_of_ble_eq_true rfl) ((fun _ => rfl) _) rfl rfl rfl hl.1 rfl (Nat.le_of_ble_eq_true rfl) dX10_shareFor_58 ⟨Nat.le_of_ble_eq_true rfl, Nat.le_of_ble_eq_true rfl⟩) (fun H locs hI => ?_)
      refine lv_iadd C0.1 C0.2.1 dX10_shareFor_61 ?_
      refine lv_i2f C0.1 C0.2.1 dX10_shareFor_62 ?_
      obtain ⟨h_37, hf⟩ := chk_some hf
      refine lv_fdiv C0.1 C0.2.1 dX10_shareFor_63 (n32_n h_37) ?_
      refine lv_goto (tgt := 68) C0.1 C0.2.1 dX10_shareFor_64 (by decide) ?_
      exact ee_fm C0 hI hr hlocks hf dX10_shareFor_68

def F_X10_meanSittingWeight_L9 (n : Nat) : Nat → Int32 → Int32 → Int32 → Mem → Option (UInt64 × Mem)
  | 0, _, _, _, _ => none
  | k9 + 1, x1_9, x2_9, x3_9, M =>
    chk (inb 0 407) ((if (M 1 (ix 0)) ≤ x3_9 then (if x1_9 = 0 then lt' (up2 M 0 0 1) (fun M_9_8 => (if (M_9_8 0 0) = 0 then chk (n64 (FP.ddiv (FP.i2d x2_9) (FP.i2d x1_9))) (some (FP.ddiv (FP.i2d x2_9) (FP.i2d x1_9), M_9_8)) else some (FP.dconst0, M_9_8))) else lt' (up2 M 0 0 0) (fun M_9_4 => (if (M_9_4 0 0) = 0 then chk (n64 (FP.ddiv (FP.i2d x2_9) (FP.i2d x1_9))) (some (FP.ddiv (FP.i2d x2_9) (FP.i2d x1_9), M_9_4)) else some (FP.dconst0, M_9_4)))) else ob (F_X10_isOn n x3_9 M) (fun r_9_13 => (if r_9_13 = 0 then lt' (x2_9 + 0) (fun x2_9_15 => lt' (x3_9 + 1) (fun x3_9_17 => F_X10_meanSittingWeight_L9 n k9 x1_9 x2_9_15 x3_9_17 M)) else chk (inb (17 + x3_9) 407) (lt' (x2_9 + (M 1 (ix (17 + x3_9)))) (fun x2_9_20 => lt' (x3_9 + 1) (fun x3_9_22 => F_X10_meanSittingWeight_L9 n k9 x1_9 x2_9_20 x3_9_22 M)))))))
def F_X10_meanSittingWeight (n : Nat) (M : Mem) : Option (UInt64 × Mem) :=
  ob (F_X10_sitting n M) (fun r_2 => F_X10_meanSittingWeight_L9 n n r_2 0 0 M)
theorem hd_X10_meanSittingWeight : yX10_meanSittingWeight.cls ≠ "java/lang/invoke/MethodHandle" ∧ yX10_meanSittingWeight.cls ≠ "java/lang/invoke/VarHandle" ∧ (parseMethodDescriptor yX10_meanSittingWeight.desc).map (fun d => d.parameters.length) = some 0 := ⟨by decide +kernel, by decide +kernel, by decide +kernel⟩
set_option maxHeartbeats 4000000 in
set_option maxRecDepth 100000 in
theorem c_X10_meanSittingWeight (l : Launch) (g : GG) (X : va_W) (b : Nat → Nat) (sz n : Nat) (M : Mem) {r0 : UInt64} {M' : Mem} (hf : F_X10_meanSittingWeight n M = some (r0, M')) : Met l yX10_meanSittingWeight (.code yX10_meanSittingWeight cX10_meanSittingWeight 4 (some .double) :: LWg) (rmD 2 0 0) (va_Pc [.ref (b 0)] (PreP g X 10 (shM g b) b sz M)) (Qd g X 10 (shM g b) b sz r0 M') 0 0 (AA X b 10 sz) := by
  refine met_go (by decide +kernel) rfl (Nat.le_of_ble_eq_true rfl) ?_
  intro p e s m below meth c ls H locs C0 C1 hr hlocks hnm hsz hl hI
  subst hsz
  have hl : lv_has ls 4 [(0, .ref (b 0))] := hl
  unfold F_X10_meanSittingWeight at hf
  refine lv_aload_n C0.1 C0.2.1 dX10_meanSittingWeight_0 rfl (lv_at hl 0 rfl) ?_
  obtain ⟨r_2, h_1, hf⟩ := ob_some hf
  refine k_i C1 hI (q_V C0 C1 hI 0 (c_X10_sitting l g X b H.size n M h_1) w_1862 w_1864 w_83 w_132 w_1865 ⟨rfl, rfl⟩ hd_X10_sitting ⟨Nat.le_of_ble_eq_true rfl, Nat.le_of_ble_eq_true rfl⟩ (Nat.le_of_ble_eq_true rfl) ((fun _ => rfl) _) rfl rfl rfl hl.1 rfl (Nat.le_of_ble_eq_true rfl) dX10_meanSittingWeight_1 ⟨Nat.le_of_ble_eq_true rfl, Nat.le_of_ble_eq_true rfl⟩) (fun H locs hI => ?_)
  refine lv_istore_n (lv' := [(1, .int r_2), (0, .ref (b 0))]) C0.1 C0.2.1 dX10_meanSittingWeight_4 rfl hl (by decide) rfl (fun ls hl => ?_)
  refine lv_iconst (v := 0) C0.1 C0.2.1 dX10_meanSittingWeight_5 (by decide) ?_
  refine lv_istore_n (lv' := [(2, .int 0), (1, .int r_2), (0, .ref (b 0))]) C0.1 C0.2.1 dX10_meanSittingWeight_6 rfl hl (by decide) rfl (fun ls hl => ?_)
  refine lv_iconst (v := 0) C0.1 C0.2.1 dX10_meanSittingWeight_7 (by decide) ?_
  refine lv_istore_n (lv' := [(3, .int 0), (2, .int 0), (1, .int r_2), (0, .ref (b 0))]) C0.1 C0.2.1 dX10_meanSittingWeight_8 rfl hl (by decide) rfl (fun ls hl => ?_)
  have L9 : ∀ (k9 : Nat) (x1_9 : Int32) (x2_9 : Int32) (x3_9 : Int32) (M : Mem), F_X10_meanSittingWeight_L9 n k9 x1_9 x2_9 x3_9 M = some (r0, M') → ∀ (H : Heap) (locs : List Loc) (ls : Array Slot), PI g X 10 (shM g b) b s M H locs → lv_has ls 4 [(0, .ref (b 0)), (1, .int x1_9), (2, .int x2_9), (3, .int x3_9)] → W p l e (rmD 2 0 0) s m ([.ref (b 0)] : List Value).toArray below meth c H locs 0 0 (MQ below (Qd g X 10 (shM g b) b s.heap.size r0 M') ([.ref (b 0)] : List Value).toArray s 0 0 (AA X b 10 s.heap.size)) (F0 m 9 ls []) := by
    intro k9
    induction k9 with
    | zero => intro x1_9 x2_9 x3_9 M hf; exact absurd (show (none : Option (UInt64 × Mem)) = some (r0, M') from hf) (fun h => by cases h)
    | succ k9 ih9 =>
      intro x1_9 x2_9 x3_9 M hf H locs ls hI hl
      unfold F_X10_meanSittingWeight_L9 at hf
      refine lv_iload_n C0.1 C0.2.1 dX10_meanSittingWeight_9 rfl (lv_at hl 3 rfl) ?_
      refine lv_aload_n C0.1 C0.2.1 dX10_meanSittingWeight_10 rfl (lv_at hl 0 rfl) ?_
      refine r_get (C := RX10) (T := TX10) (N9 := 20) (ci := 11) C0 C1 hI iX10 rfl 0 5 (Nat.le_of_ble_eq_true rfl) (by decide) ((fun _ => rfl) _) rfl rfl w_1696 dX10_meanSittingWeight_11 ?_
      refine lv_iconst (v := 0) C0.1 C0.2.1 dX10_meanSittingWeight_14 (by decide) ?_
      obtain ⟨h_9_1, hf⟩ := chk_some hf
      refine r_iald C0 C1 hI 1 (Nat.le_of_ble_eq_true rfl) (fun _ => rfl) h_9_1 dX10_meanSittingWeight_15 ?_
      refine lv_icmp_ge (tgt := 49) C0.1 C0.2.1 dX10_meanSittingWeight_16 (by decide) (fun c_9_2 => ?_) (fun c_9_2 => ?_)
      · have hf := (if_pos c_9_2).symm.trans hf
        refine lv_aload_n C0.1 C0.2.1 dX10_meanSittingWeight_49 rfl (lv_at hl 0 rfl) ?_
        refine lv_iload_n C0.1 C0.2.1 dX10_meanSittingWeight_50 rfl (lv_at hl 1 rfl) ?_
        refine lv_if_ne (tgt := 58) C0.1 C0.2.1 dX10_meanSittingWeight_51 (by decide) (fun c_9_3 => ?_) (fun c_9_3 => ?_)
        · have hf := (if_neg c_9_3).symm.trans hf
          refine lv_iconst (v := 0) C0.1 C0.2.1 dX10_meanSittingWeight_58 (by decide) ?_
          refine r_put (C := RX10) (T := TX10) (N9 := 20) (ci := 11) (fs := fM b) (ty := .int) C0 C1 hI iX10 tyX10 tyX10_ok nmX10 rfl 0 0 (Nat.le_of_ble_eq_true rfl) (by decide) (fun _ => rfl) rfl rfl rfl (by decide +kernel) ⟨rfl, rfl⟩ (Nat.le_of_ble_eq_true rfl) w_1691 dX10_meanSittingWeight_59 (fun H locs hI => ?_)
          obtain ⟨M_9_4, e_9_5⟩ : ∃ z : Mem, z = up2 M 0 0 0 := ⟨_, rfl⟩
          rw [← e_9_5] at hI
          have hf := lt_at e_9_5 hf
          refine lv_aload_n C0.1 C0.2.1 dX10_meanSittingWeight_62 rfl (lv_at hl 0 rfl) ?_
          refine r_get (C := RX10) (T := TX10) (N9 := 20) (ci := 11) C0 C1 hI iX10 rfl 0 0 (Nat.le_of_ble_eq_true rfl) (by decide) ((fun _ => rfl) _) rfl rfl w_1691 dX10_meanSittingWeight_63 ?_
          refine lv_if_ne (tgt := 77) C0.1 C0.2.1 dX10_meanSittingWeight_66 (by decide) (fun c_9_6 => ?_) (fun c_9_6 => ?_)
          · have hf := (if_neg c_9_6).symm.trans hf
            refine lv_dconst0 C0.1 C0.2.1 dX10_meanSittingWeight_77 ?_
            exact ee_dm C0 hI hr hlocks hf dX10_meanSittingWeight_78
          · have hf := (if_pos c_9_6).symm.trans hf
            refine lv_iload_n C0.1 C0.2.1 dX10_meanSittingWeight_69 rfl (lv_at hl 2 rfl) ?_
            refine lv_i2d C0.1 C0.2.1 dX10_meanSittingWeight_70 ?_
            refine lv_iload_n C0.1 C0.2.1 dX10_meanSittingWeight_71 rfl (lv_at hl 1 rfl) ?_
            refine lv_i2d C0.1 C0.2.1 dX10_meanSittingWeight_72 ?_
            obtain ⟨h_9_7, hf⟩ := chk_some hf
            refine lv_ddiv C0.1 C0.2.1 dX10_meanSittingWeight_73 (n64_n h_9_7) ?_
            refine lv_goto (tgt := 78) C0.1 C0.2.1 dX10_meanSittingWeight_74 (by decide) ?_
            exact ee_dm C0 hI hr hlocks hf dX10_meanSittingWeight_78
        · have hf := (if_pos c_9_3).symm.trans hf
          refine lv_iconst (v := 1) C0.1 C0.2.1 dX10_meanSittingWeight_54 (by decide) ?_
          refine lv_goto (tgt := 59) C0.1 C0.2.1 dX10_meanSittingWeight_55 (by decide) ?_
          refine r_put (C := RX10) (T := TX10) (N9 := 20) (ci := 11) (fs := fM b) (ty := .int) C0 C1 hI iX10 tyX10 tyX10_ok nmX10 rfl 0 0 (Nat.le_of_ble_eq_true rfl) (by decide) (fun _ => rfl) rfl rfl rfl (by decide +kernel) ⟨rfl, rfl⟩ (Nat.le_of_ble_eq_true rfl) w_1691 dX10_meanSittingWeight_59 (fun H locs hI => ?_)
          obtain ⟨M_9_8, e_9_9⟩ : ∃ z : Mem, z = up2 M 0 0 1 := ⟨_, rfl⟩
          rw [← e_9_9] at hI
          have hf := lt_at e_9_9 hf
          refine lv_aload_n C0.1 C0.2.1 dX10_meanSittingWeight_62 rfl (lv_at hl 0 rfl) ?_
          refine r_get (C := RX10) (T := TX10) (N9 := 20) (ci := 11) C0 C1 hI iX10 rfl 0 0 (Nat.le_of_ble_eq_true rfl) (by decide) ((fun _ => rfl) _) rfl rfl w_1691 dX10_meanSittingWeight_63 ?_
          refine lv_if_ne (tgt := 77) C0.1 C0.2.1 dX10_meanSittingWeight_66 (by decide) (fun c_9_10 => ?_) (fun c_9_10 => ?_)
          · have hf := (if_neg c_9_10).symm.trans hf
            refine lv_dconst0 C0.1 C0.2.1 dX10_meanSittingWeight_77 ?_
            exact ee_dm C0 hI hr hlocks hf dX10_meanSittingWeight_78
          · have hf := (if_pos c_9_10).symm.trans hf
            refine lv_iload_n C0.1 C0.2.1 dX10_meanSittingWeight_69 rfl (lv_at hl 2 rfl) ?_
            refine lv_i2d C0.1 C0.2.1 dX10_meanSittingWeight_70 ?_
            refine lv_iload_n C0.1 C0.2.1 dX10_meanSittingWeight_71 rfl (lv_at hl 1 rfl) ?_
            refine lv_i2d C0.1 C0.2.1 dX10_meanSittingWeight_72 ?_
            obtain ⟨h_9_11, hf⟩ := chk_some hf
            refine lv_ddiv C0.1 C0.2.1 dX10_meanSittingWeight_73 (n64_n h_9_11) ?_
            refine lv_goto (tgt := 78) C0.1 C0.2.1 dX10_meanSittingWeight_74 (by decide) ?_
            exact ee_dm C0 hI hr hlocks hf dX10_meanSittingWeight_78
      · have hf := (if_neg c_9_2).symm.trans hf
        refine lv_iload_n C0.1 C0.2.1 dX10_meanSittingWeight_19 rfl (lv_at hl 2 rfl) ?_
        refine lv_aload_n C0.1 C0.2.1 dX10_meanSittingWeight_20 rfl (lv_at hl 0 rfl) ?_
        refine lv_iload_n C0.1 C0.2.1 dX10_meanSittingWeight_21 rfl (lv_at hl 3 rfl) ?_
        obtain ⟨r_9_13, h_9_12, hf⟩ := ob_some hf
        refine k_i C1 hI (q_V C0 C1 hI 0 (c_X10_isOn l g X b H.size n M x3_9 h_9_12) w_1818 w_1820 w_80 w_132 w_1821 ⟨rfl, rfl⟩ hd_X10_isOn ⟨Nat.le_of_ble_eq_true rfl, Nat.le_of_ble_eq_true rfl⟩ (Nat.le_of_ble_eq_true rfl) ((fun _ => rfl) _) rfl rfl rfl hl.1 rfl (Nat.le_of_ble_eq_true rfl) dX10_meanSittingWeight_22 ⟨Nat.le_of_ble_eq_true rfl, Nat.le_of_ble_eq_true rfl⟩) (fun H locs hI => ?_)
        refine lv_if_eq (tgt := 40) C0.1 C0.2.1 dX10_meanSittingWeight_25 (by decide) (fun c_9_14 => ?_) (fun c_9_14 => ?_)
        · have hf := (if_pos c_9_14).symm.trans hf
          refine lv_iconst (v := 0) C0.1 C0.2.1 dX10_meanSittingWeight_40 (by decide) ?_
          refine lv_iadd C0.1 C0.2.1 dX10_meanSittingWeight_41 ?_
          refine lv_topi (fun x2_9_15 e_9_16 => ?_)
          have hf := lt_at e_9_16 hf
          refine lv_istore_n (lv' := [(2, .int x2_9_15), (0, .ref (b 0)), (1, .int x1_9), (3, .int x3_9)]) C0.1 C0.2.1 dX10_meanSittingWeight_42 rfl hl (by decide) rfl (fun ls hl => ?_)
          obtain ⟨x3_9_17, e_9_18⟩ : ∃ z : Int32, z = x3_9 + 1 := ⟨_, rfl⟩
          have hf := lt_at e_9_18 hf
          refine lv_iinc (v := x3_9_17) (lv' := [(3, .int x3_9_17), (2, .int x2_9_15), (0, .ref (b 0)), (1, .int x1_9)]) C0.1 C0.2.1 dX10_meanSittingWeight_43 hl (k := 3) rfl (by rw [e_9_18]; rfl) (by decide) rfl (fun ls hl => ?_)
          refine lv_goto (tgt := 9) C0.1 C0.2.1 dX10_meanSittingWeight_46 (by decide) ?_
          exact ih9 x1_9 x2_9_15 x3_9_17 M hf H locs ls hI (lv_sub hl [2, 3, 1, 0] rfl)
        · have hf := (if_neg c_9_14).symm.trans hf
          refine lv_aload_n C0.1 C0.2.1 dX10_meanSittingWeight_28 rfl (lv_at hl 0 rfl) ?_
          refine r_get (C := RX10) (T := TX10) (N9 := 20) (ci := 11) C0 C1 hI iX10 rfl 0 5 (Nat.le_of_ble_eq_true rfl) (by decide) ((fun _ => rfl) _) rfl rfl w_1696 dX10_meanSittingWeight_29 ?_
          refine lv_bipush (v := 17) C0.1 C0.2.1 dX10_meanSittingWeight_32 (by decide) ?_
          refine lv_iload_n C0.1 C0.2.1 dX10_meanSittingWeight_34 rfl (lv_at hl 3 rfl) ?_
          refine lv_iadd C0.1 C0.2.1 dX10_meanSittingWeight_35 ?_
          obtain ⟨h_9_19, hf⟩ := chk_some hf
          refine r_iald C0 C1 hI 1 (Nat.le_of_ble_eq_true rfl) (fun _ => rfl) h_9_19 dX10_meanSittingWeight_36 ?_
          refine lv_goto (tgt := 41) C0.1 C0.2.1 dX10_meanSittingWeight_37 (by decide) ?_
          refine lv_iadd C0.1 C0.2.1 dX10_meanSittingWeight_41 ?_
          refine lv_topi (fun x2_9_20 e_9_21 => ?_)
          have hf := lt_at e_9_21 hf
          refine lv_istore_n (lv' := [(2, .int x2_9_20), (0, .ref (b 0)), (1, .int x1_9), (3, .int x3_9)]) C0.1 C0.2.1 dX10_meanSittingWeight_42 rfl hl (by decide) rfl (fun ls hl => ?_)
          obtain ⟨x3_9_22, e_9_23⟩ : ∃ z : Int32, z = x3_9 + 1 := ⟨_, rfl⟩
          have hf := lt_at e_9_23 hf
          refine lv_iinc (v := x3_9_22) (lv' := [(3, .int x3_9_22), (2, .int x2_9_20), (0, .ref (b 0)), (1, .int x1_9)]) C0.1 C0.2.1 dX10_meanSittingWeight_43 hl (k := 3) rfl (by rw [e_9_23]; rfl) (by decide) rfl (fun ls hl => ?_)
          refine lv_goto (tgt := 9) C0.1 C0.2.1 dX10_meanSittingWeight_46 (by decide) ?_
          exact ih9 x1_9 x2_9_20 x3_9_22 M hf H locs ls hI (lv_sub hl [2, 3, 1, 0] rfl)
  exact L9 n r_2 0 0 M hf H locs ls hI (lv_sub hl [3, 2, 1, 0] rfl)
