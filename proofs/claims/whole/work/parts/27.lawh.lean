/-! ===== the law's helpers: calls of the class under a handler ===== -/
theorem mH_of {l : Launch} {y : MethodName} {ws ws' : List Cond} {rm : Room} {Pc : Array Value → State → Prop} {Qc : Array Value → State → Outcome → State → Prop} {mc ms : Nat} {free : Addr → Prop} {cc : ByteArray} {maxL : Nat} {ret : Option FieldType} {hh : List (Nat × Nat × Nat × Nat)}
    (hy : plainName y.cls = true) (hw : ws = Cond.codeWith y cc maxL ret hh :: ws')
    (body : ∀ p e s m args below meth c s₁, BodyLoose p l y (headSpec ws rm) cc maxL ret e s m args below meth c s₁ → c.maxLocals = maxL → Pc args s →
      W p l e (headSpec ws rm).room s m args below meth c s.heap [] 0 0 (MQ below Qc args s mc ms free) (entryFrame m args maxL)) : Met l y ws rm Pc Qc mc ms free := by
  refine MetFree.of_bodyS (code := cc) (maxLocals := maxL) (ret := ret) hy ?_ ?_
  · intro args s m h hn
    obtain ⟨m9, meth, c, hn9, h1, h2, h3, h4, -, h5, h6, -⟩ := Cond.codeWith_spec (atoms_spec (ws := ws) h _ (by rw [hw]; exact List.mem_cons_self))
    cases hn.symm.trans hn9
    exact ⟨meth, c, h1, h2, h3, h4, h5, h6⟩
  · intro p e s m args below meth c s₁ B hml hP _
    have hh0 : s₁.heap = s.heap := by rw [B.state]; rfl
    obtain ⟨t, a1, o, b1, b2, b3⟩ := body p e s m args below meth c s₁ B hml hP s₁ hh0 (Stand.of_body B)
    exact ⟨t, o, a1, b1, b2, ⟨b3.1, b3.2⟩⟩
theorem metH_go {l : Launch} {y : MethodName} {cc : ByteArray} {maxL : Nat} {ret : Option FieldType} {hh : List (Nat × Nat × Nat × Nat)} {rm : Room} {g : GG} {X : va_W} {N : Nat} {sh : Shp} {b : Nat → Nat} {sz : Nat} {M : Mem} {av : List Value} {own : String} {Qc : Array Value → State → Outcome → State → Prop} {mc ms : Nat} {free : Addr → Prop}
    (hy : plainName y.cls = true) (hown : y.cls = own) (hlen : (lg_sl av).length ≤ maxL)
    (body : ∀ (p : Program) (e : Env) (s : State) (m : MethodId) (below : List Frame) (meth : Method) (c : Code) (ls : Array Slot) (H : Heap) (locs : List Loc), CallFix p m c cc maxL s av.toArray LWg own → CX g X N sh b s → meth.sig.returnType = ret → meth.locks = false → c.exceptionTable.toList = tableOf hh → sz = s.heap.size → lv_has ls maxL (lv_args 0 av) → PI g X N sh b s M H locs →
      W p l e rm s m av.toArray below meth c H locs 0 0 (MQ below Qc av.toArray s mc ms free) (F0 m 0 ls [])) : Met l y (.codeWith y cc maxL ret hh :: LWg) rm (va_Pc av (PreP g X N sh b sz M)) Qc mc ms free := by
  refine mH_of (cc := cc) (maxL := maxL) (ret := ret) hy rfl ?_
  intro p e s m args below meth c s₁ B hml hv
  obtain ⟨rfl, hv⟩ := hv
  obtain ⟨hsz, C1, hI⟩ := PreP.go hv
  have hl := lv_entry av (n := maxL) hlen
  have hT := vx_table (x := y) B (atoms_spec (ws := .codeWith y cc maxL ret hh :: LWg) B.pre _ List.mem_cons_self)
  rw [lg_entry_eq]
  exact body p e s m below meth c _ _ _ ⟨B.exec, B.bytes, hml, by rw [← hown]; exact findClass_of_methodNamed B.named, fun w hw => atoms_spec (ws := .codeWith y cc maxL ret hh :: LWg) B.pre w (List.mem_cons_of_mem _ hw)⟩ C1 B.returns B.notSynchronized hT hsz hl hI
theorem good_allH {y : MethodName} {bytes : ByteArray} {maxL : Nat} {ret : Option FieldType} {hh : List (Nat × Nat × Nat × Nat)} (h : (.codeWith y bytes maxL ret hh) ∈ LWg) : GoodIn LWg (.codeWith y bytes maxL ret hh :: LWg) := fun w hw => (List.mem_cons.mp hw).elim (fun e => by rw [e]; exact ⟨h, LWg_good h⟩) (fun h2 => ⟨h2, LWg_good h2⟩)
def outs (g : GG) (q1 q2 : Nat) (o : Nat → Int64) (d : Nat → UInt64) : va_W := [(q1, .inl (g.2.1 5, 1, .inr (.inl o))), (q2, .inl (g.2.1 6, 1, .inr (.inr (.inr (.inl d)))))]
/-- the helper's answer, what it leaves in its row -/
def cx {α : Type} (L : List Nat) (q0 : RX α) : Int32 := match q0 with | .inl k => nI (L.idxOf k + 1) | .inr _ => 0
def ou {α : Type} (f : α → Int64) (o : Nat → Int64) (q0 : RX α) : Nat → Int64 := match q0 with | .inl _ => o | .inr v => vp_updL o 0 (f v)
def od {α : Type} (f : α → UInt64) (d : Nat → UInt64) (q0 : RX α) : Nat → UInt64 := match q0 with | .inl _ => d | .inr v => vf_upd d 0 (f v)
abbrev ciI (v : Int32) : Int64 := v.toInt64
def ciZ (v : Int32) : Int64 := if v = 0 then 0 else 1
theorem CX.map {g : GG} {X X' : va_W} {N : Nat} {sh : Shp} {b : Nat → Nat} {s : State} (hm : X'.map (fun q => q.1) = X.map (fun q => q.1)) (h : CX g X N sh b s) : AA X' b N s.heap.size = AA X b N s.heap.size ∧ CX g X' N sh b s := by
  have e : AA X' b N s.heap.size = AA X b N s.heap.size := AA_ext fun q => by rw [hm]
  obtain ⟨h1, h2, h3, h4⟩ := h
  refine ⟨e, h1, fun M1 => ?_, by rw [e]; exact h3, h4⟩
  rw [e]
  exact va_D_map (by rw [List.map_append, List.map_append, hm]) (h2 M1)
section LAWH
variable {p : Program} {l : Launch} {e : Env} {R : Room} {s : State} {m : MethodId} {args : Array Value} {below : List Frame} {meth : Method} {c : Code} {H : Heap} {locs : List Loc} {cells slots : Nat} {Q : State → Prop}
variable {cc : ByteArray} {nL : Nat} {own : String} {pc : Nat} {ls : Array Slot} {rest st0 : List Value} {g : GG} {Y W1 : va_W} {N : Nat} {sh : Shp} {b : Nat → Nat} {M : Mem} {q1 q2 : Nat} {o : Nat → Int64} {d : Nat → UInt64}
theorem o_last (k : Nat) (hk : W1.length = k) (C0 : CallFix p m c cc nL s args LWg own) (C1 : CX g (W1 ++ (outs g q1 q2 o d ++ Y)) N sh b s) (hI : PI g (W1 ++ (outs g q1 q2 o d ++ Y)) N sh b s M H locs) {x : Int64} (hdg : decode cc pc = .ok (.lastore, 1))
    (kk : ∀ (H : Heap) (locs : List Loc), AA (W1 ++ (outs g q1 q2 (vp_updL o 0 x) d ++ Y)) b N s.heap.size = AA (W1 ++ (outs g q1 q2 o d ++ Y)) b N s.heap.size → CX g (W1 ++ (outs g q1 q2 (vp_updL o 0 x) d ++ Y)) N sh b s → PI g (W1 ++ (outs g q1 q2 (vp_updL o 0 x) d ++ Y)) N sh b s M H locs → W p l e R s m args below meth c H locs cells slots Q (F0 m (pc + 1) ls rest)) : W p l e R s m args below meth c H locs cells slots Q (F0 m pc ls (.long x :: .int 0 :: .ref q1 :: rest)) := by
  subst hk
  have hx : ((W1 ++ (outs g q1 q2 o d ++ Y)) ++ pw N sh b M)[W1.length]? = some (q1, .inl (g.2.1 5, 1, .inr (.inl o))) := by
    rw [List.append_assoc, List.getElem?_append_right (Nat.le_refl _), Nat.sub_self]
    rfl
  obtain ⟨eA, C2⟩ := CX.map (X' := W1 ++ (outs g q1 q2 (vp_updL o 0 x) d ++ Y)) (by simp only [List.map_append]; rfl) C1
  refine va_last C0.1 C0.2.1 C1.1 hI.1 (C1.2.1 M) hI.2 W1.length 5 hx rfl (i := 0) (inb_in (by decide)) hdg (fun H1 locs1 hP hD hS => kk H1 locs1 eA C2 ⟨?_, by rw [eA]; exact hS⟩)
  rw [List.append_assoc, List.set_append_right _ _ (Nat.le_refl _), Nat.sub_self, show (0 : Int32).toNatClampNeg = 0 from rfl] at hP
  rw [List.append_assoc]
  exact hP
theorem o_dast (k : Nat) (hk : W1.length = k) (C0 : CallFix p m c cc nL s args LWg own) (C1 : CX g (W1 ++ (outs g q1 q2 o d ++ Y)) N sh b s) (hI : PI g (W1 ++ (outs g q1 q2 o d ++ Y)) N sh b s M H locs) {x : UInt64} (hdg : decode cc pc = .ok (.dastore, 1))
    (kk : ∀ (H : Heap) (locs : List Loc), AA (W1 ++ (outs g q1 q2 o (vf_upd d 0 x) ++ Y)) b N s.heap.size = AA (W1 ++ (outs g q1 q2 o d ++ Y)) b N s.heap.size → CX g (W1 ++ (outs g q1 q2 o (vf_upd d 0 x) ++ Y)) N sh b s → PI g (W1 ++ (outs g q1 q2 o (vf_upd d 0 x) ++ Y)) N sh b s M H locs → W p l e R s m args below meth c H locs cells slots Q (F0 m (pc + 1) ls rest)) : W p l e R s m args below meth c H locs cells slots Q (F0 m pc ls (.double x :: .int 0 :: .ref q2 :: rest)) := by
  subst hk
  have hx : ((W1 ++ (outs g q1 q2 o d ++ Y)) ++ pw N sh b M)[W1.length + 1]? = some (q2, .inl (g.2.1 6, 1, .inr (.inr (.inr (.inl d))))) := by
    rw [List.append_assoc, List.getElem?_append_right (Nat.le_add_right _ 1), Nat.add_sub_cancel_left]
    rfl
  obtain ⟨eA, C2⟩ := CX.map (X' := W1 ++ (outs g q1 q2 o (vf_upd d 0 x) ++ Y)) (by simp only [List.map_append]; rfl) C1
  refine va_dast C0.1 C0.2.1 C1.1 hI.1 (C1.2.1 M) hI.2 (W1.length + 1) 6 hx rfl (i := 0) (inb_in (by decide)) hdg (fun H1 locs1 hP hD hS => kk H1 locs1 eA C2 ⟨?_, by rw [eA]; exact hS⟩)
  rw [List.append_assoc, List.set_append_right _ _ (Nat.le_add_right _ 1), Nat.add_sub_cancel_left, show (0 : Int32).toNatClampNeg = 0 from rfl] at hP
  rw [List.append_assoc]
  exact hP
theorem e_h {A0 : Nat → Prop} {Xe : va_W} {R0 : Int32} {M' : Mem} {X : va_W} (C0 : CallFix p m c cc nL s args LWg own) (hA : AA X b N s.heap.size = A0) (hI : PI g X N sh b s M H locs) (hr : meth.sig.returnType = some .int) (hlocks : meth.locks = false) {v : Int32} (hv : v = R0) (hX : X = Xe) (hM : M = M') (hdg : decode cc pc = .ok (.ireturn, 1)) :
    W p l e R s m args below meth c H locs cells slots (MQ below (va_Qi (fun r (_ : Unit) => r = R0) (fun _ t => PoP g Xe N sh b M' t) A0) args s cells slots A0) (F0 m pc ls [.int v]) := by
  subst hA; subst hX; subst hM; subst hv
  exact W.iret C0.1 C0.2.1 hr (fun t ht hW => ⟨⟨v, (), rfl, rfl, by show va_P _ _ _ t.heap; rw [ht]; exact hI.1⟩, hI.2.F ht⟩) hI.2.2.2 hdg hlocks
end LAWH
theorem cxl {α : Type} {L : List Nat} {k : Nat} {q0 : RX α} (h : q0 = .inl k) : cx L q0 = nI (L.idxOf k + 1) := by subst h; rfl
theorem cxr {α : Type} {L : List Nat} {v : α} {q0 : RX α} (h : q0 = .inr v) : cx L q0 = 0 := by subst h; rfl
theorem oul {α : Type} {f : α → Int64} {o : Nat → Int64} {k : Nat} {q0 : RX α} (h : q0 = .inl k) : ou f o q0 = o := by subst h; rfl
theorem our {α : Type} {f : α → Int64} {o : Nat → Int64} {v : α} {q0 : RX α} (h : q0 = .inr v) : ou f o q0 = vp_updL o 0 (f v) := by subst h; rfl
theorem odl {α : Type} {f : α → UInt64} {d : Nat → UInt64} {k : Nat} {q0 : RX α} (h : q0 = .inl k) : od f d q0 = d := by subst h; rfl
theorem odr {α : Type} {f : α → UInt64} {d : Nat → UInt64} {v : α} {q0 : RX α} (h : q0 = .inr v) : od f d q0 = vf_upd d 0 (f v) := by subst h; rfl
/-- of a helper under which an array may grow -/
def PoH (g : GG) (Y : va_W) (A0 : Nat → Prop) (b : Nat → Nat) (sz q1 q2 : Nat) (o : Nat → Int64) (d : Nat → UInt64) (T' M' : Mem) (t : State) : Prop :=
  ∃ (r' : Nat → Nat) (J : va_W), va_P g.1 vwCl (xb g r' T' ++ (J ++ (outs g q1 q2 o d ++ Y)) ++ pw 372 (shI g r' b) b M') t.heap ∧ va_D (fun _ => True) (xb g r' T' ++ (J ++ (outs g q1 q2 o d ++ Y)) ++ pw 372 (shI g r' b) b M') ∧ AA (xb g r' T' ++ (J ++ (outs g q1 q2 o d ++ Y))) b 372 sz = A0
section LAWG
variable {p : Program} {l : Launch} {e : Env} {R : Room} {s : State} {m : MethodId} {args : Array Value} {below : List Frame} {meth : Method} {c : Code} {H : Heap} {locs : List Loc} {cells slots mc ms : Nat} {Q : State → Prop}
variable {cc : ByteArray} {nL : Nat} {own : String} {pc : Nat} {ls : Array Slot} {rest st0 : List Value} {g : GG} {X X0 Y : va_W} {A0 : Nat → Prop} {r b : Nat → Nat} {T T' M M' : Mem} {q1 q2 : Nat} {o : Nat → Int64} {d : Nat → UInt64} {av : Array Value}
theorem kxg_i (hG : GX g X0 A0 r T X b s) (hI : PI g (xb g r T ++ X) 372 (shI g r b) b s M H locs) {q0 : RX Int32} (run : vx_Run p l e R s m args below meth c H locs cells slots mc ms (F0 m pc ls st0) rest (QgX g X (AA (xb g r T ++ X) b 372 H.size) b H.size q0 T' M' av) (XcX g (xb g r T ++ X) 372 (shI g r b) b H.size q0 M') (AA (xb g r T ++ X) b 372 H.size))
    (kx : ∀ (k : Nat) (H : Heap) (locs : List Loc) (ce : Cell) (q9 : Addr), q0 = .inl k → PI g (xb g r T ++ X) 372 (shI g r b) b s M' H locs → H[q9]? = some ce → ce.vm = .none → s.vm.findClass (exN k) = some ce.cls → vx_W p l e R s m args below meth c H locs (cells + mc) (slots + ms) Q (F0 m pc ls rest) q9)
    (kk : ∀ (v : Int32) (r' : Nat → Nat) (X' : va_W) (H : Heap) (locs : List Loc), q0 = .inr v → GX g X0 A0 r' T' X' b s → PI g (xb g r' T' ++ X') 372 (shI g r' b) b s M' H locs → W p l e R s m args below meth c H locs (cells + mc) (slots + ms) Q (F0 m (pc + 3) ls (.int v :: rest))) : W p l e R s m args below meth c H locs cells slots Q (F0 m pc ls st0) :=
  vx_calli run hI.2 (fun q _ h => CX.fr hI q h) (CX.fr hI) (fun q _ h => CX.fr hI q h)
    (fun E ce q9 u t H1 locs1 ht hvm hp hb hz hk hS h1 h2 h3 => by obtain ⟨⟨k, e1, rfl⟩, hb⟩ := hb; exact kx k H1 locs1 ce q9 e1 ⟨by rw [← ht]; exact hb, hS⟩ h1 h2 h3)
    (fun v u t H1 locs1 ht hvm hp hb hz hk hS => by obtain ⟨r', X', h1, h2⟩ := GX.call hG hI ht hb hS; exact kk v r' X' H1 locs1 hp h1 h2)
theorem e_hgl {R0 : Int32} {oe : Nat → Int64} {Te Me : Mem} (C0 : CallFix p m c cc nL s args LWg own) (C1 : CX g (xb g r T ++ (outs g q1 q2 o d ++ Y)) 372 (shI g r b) b s) (hI : PI g (xb g r T ++ (outs g q1 q2 o d ++ Y)) 372 (shI g r b) b s M H locs) (hr : meth.sig.returnType = some .int) (hlocks : meth.locks = false) {v : Int32} (hv : v = R0) (ho : oe = o) (hM : M = Me) (hT : Te = T) (hdg : decode cc pc = .ok (.ireturn, 1)) :
    W p l e R s m args below meth c H locs cells slots (MQ below (va_Qi (fun r (_ : Unit) => r = R0) (fun _ t => PoH g Y (AA (xb g r T ++ (outs g q1 q2 o d ++ Y)) b 372 s.heap.size) b s.heap.size q1 q2 oe d Te Me t) (AA (xb g r T ++ (outs g q1 q2 o d ++ Y)) b 372 s.heap.size)) args s cells slots (AA (xb g r T ++ (outs g q1 q2 o d ++ Y)) b 372 s.heap.size)) (F0 m pc ls [.int v]) := by
  subst hM; subst hv; subst ho; subst hT
  exact W.iret C0.1 C0.2.1 hr (fun t ht hW => ⟨⟨v, (), rfl, rfl, r, [], by rw [ht]; exact hI.1, (C1.2.1 M).weaken (fun _ _ _ _ => trivial), rfl⟩, hI.2.F ht⟩) hI.2.2.2 hdg hlocks
theorem og_last (C0 : CallFix p m c cc nL s args LWg own) (hG : GX g (outs g q1 q2 o d ++ Y) A0 r T X b s) (hI : PI g (xb g r T ++ X) 372 (shI g r b) b s M H locs) {x : Int64} (hdg : decode cc pc = .ok (.lastore, 1))
    (kk : ∀ (H : Heap) (locs : List Loc), GX g (outs g q1 q2 (vp_updL o 0 x) d ++ Y) A0 r T (X.take (X.length - (outs g q1 q2 o d ++ Y).length) ++ (outs g q1 q2 (vp_updL o 0 x) d ++ Y)) b s → PI g (xb g r T ++ (X.take (X.length - (outs g q1 q2 o d ++ Y).length) ++ (outs g q1 q2 (vp_updL o 0 x) d ++ Y))) 372 (shI g r b) b s M H locs → W p l e R s m args below meth c H locs cells slots Q (F0 m (pc + 1) ls rest)) : W p l e R s m args below meth c H locs cells slots Q (F0 m pc ls (.long x :: .int 0 :: .ref q1 :: rest)) := by
  obtain ⟨C1, hA, J, hJ⟩ := hG
  subst hJ
  have ej : (J ++ (outs g q1 q2 o d ++ Y)).take ((J ++ (outs g q1 q2 o d ++ Y)).length - (outs g q1 q2 o d ++ Y).length) = J := by
    rw [List.length_append (as := J), Nat.add_sub_cancel, List.take_left']
    rfl
  rw [ej] at kk
  rw [← List.append_assoc] at C1 hA hI
  refine o_last (W1 := xb g r T ++ J) _ rfl C0 C1 hI hdg (fun H1 locs1 eA C2 hI2 => kk H1 locs1 ⟨by rw [← List.append_assoc]; exact C2, by rw [← List.append_assoc]; exact eA.trans hA, J, rfl⟩ (by rw [← List.append_assoc]; exact hI2))
theorem e_hgr {R0 : Int32} {oe : Nat → Int64} (C0 : CallFix p m c cc nL s args LWg own) (hG : GX g (outs g q1 q2 o d ++ Y) A0 r T X b s) (hI : PI g (xb g r T ++ X) 372 (shI g r b) b s M H locs) (hr : meth.sig.returnType = some .int) (hlocks : meth.locks = false) {v : Int32} (hv : v = R0) (ho : oe = o) (hdg : decode cc pc = .ok (.ireturn, 1)) :
    W p l e R s m args below meth c H locs cells slots (MQ below (va_Qi (fun r (_ : Unit) => r = R0) (fun _ t => PoH g Y A0 b s.heap.size q1 q2 oe d T M t) A0) args s cells slots A0) (F0 m pc ls [.int v]) := by
  subst hv; subst ho
  obtain ⟨C1, hA, J, hJ⟩ := id hG
  subst hJ
  exact W.iret C0.1 C0.2.1 hr (fun t ht hW => ⟨⟨v, (), rfl, rfl, r, J, by rw [ht]; exact hI.1, (C1.2.1 M).weaken (fun _ _ _ _ => trivial), hA⟩, hG.fr hI ht⟩) (hG.lo hI) hdg hlocks
end LAWG
theorem hd_L_addFrog : yL_addFrog.cls ≠ "java/lang/invoke/MethodHandle" ∧ yL_addFrog.cls ≠ "java/lang/invoke/VarHandle" ∧ (parseMethodDescriptor yL_addFrog.desc).map (fun d => d.parameters.length) = some 4 := ⟨by decide +kernel, by decide +kernel, by decide +kernel⟩
set_option maxHeartbeats 4000000 in
theorem h_addFrog (l : Launch) (hl0 : l.stackTraces = false) (g : GG) (Y : va_W) (r b : Nat → Nat) (sz n : Nat) (T M : Mem) (q1 q2 : Nat) (o : Nat → Int64) (d : Nat → UInt64) (x1 : Int32) (x2 : Int32) {q0 : RX Int32} {M' : Mem} (hf : F_X9_addFrog n x1 x2 M = some (q0, M')) (hk : ∀ k, q0 = .inl k → k = 2 ∨ k = 1 ∨ k = 0) : Met l yL_addFrog (.codeWith yL_addFrog method_3_code 5 (some .int) [(0, 10, 13, 13), (0, 10, 17, 15), (0, 10, 21, 17)] :: LWg) (rmD 11 1 6) (va_Pc [.ref (b 0), .int x1, .int x2, .ref q1] (PreP g (xb g r T ++ (outs g q1 q2 o d ++ Y)) 372 (shI g r b) b sz M)) (va_Qi (fun res (_ : Unit) => res = cx [2, 1, 0] q0) (fun _ t => PoP g (xb g r T ++ (outs g q1 q2 (ou ciI o q0) d ++ Y)) 372 (shI g r b) b M' t) (AA (xb g r T ++ (outs g q1 q2 o d ++ Y)) b 372 sz)) 1 6 (AA (xb g r T ++ (outs g q1 q2 o d ++ Y)) b 372 sz) := by
  refine metH_go (by decide +kernel) rfl (Nat.le_of_ble_eq_true rfl) ?_
  intro p e s m below meth c ls H locs C0 C1 hr hlocks hTB hsz hl hI
  subst hsz
  have hl : lv_has ls 5 [(0, .ref (b 0)), (1, .int x1), (2, .int x2), (3, .ref q1)] := hl
  refine lv_aload_n C0.1 C0.2.1 dL_addFrog_0 rfl (lv_at hl 3 rfl) ?_
  refine lv_iconst (v := 0) C0.1 C0.2.1 dL_addFrog_1 (by decide) ?_
  refine lv_aload_n C0.1 C0.2.1 dL_addFrog_2 rfl (lv_at hl 0 rfl) ?_
  refine lv_iload_n C0.1 C0.2.1 dL_addFrog_3 rfl (lv_at hl 1 rfl) ?_
  refine lv_iload_n C0.1 C0.2.1 dL_addFrog_4 rfl (lv_at hl 2 rfl) ?_
  refine kx_i C1 hI (qx_V (As := [.int x1, .int x2]) C0 C1 hI 0 (c_X9_addFrog l hl0 g (xb g r T ++ (outs g q1 q2 o d ++ Y)) r b H.size n M x1 x2 hf) w_772 w_773 w_774 w_119 w_775 ⟨rfl, rfl⟩ hd_X9_addFrog ⟨Nat.le_of_ble_eq_true rfl, Nat.le_of_ble_eq_true rfl⟩ (kdlt0 (rfl : kdI 0 = 0)) (shI_0 (rfl : kdI 0 = 0) _) rfl rfl rfl hl.1 rfl (Nat.le_of_ble_eq_true rfl) dL_addFrog_5 ⟨Nat.le_of_ble_eq_true rfl, Nat.le_of_ble_eq_true rfl⟩) (fun k H locs ce q9 e1 hI g1 g2 g3 => ?_) (fun v H locs e1 hI => ?_)
  · rcases hk k e1 with e | e | e
    · subst e
      refine vx_catch C0.2.2.2.1 (tableOf []) ⟨0, 10, 13, 13⟩ (tableOf [(0, 10, 17, 15), (0, 10, 21, 17)]) hTB (fun z hz => nomatch hz) (by decide) (by decide) (C0.2.2.2.2 _ w_749) (va_Nw.use rfl (C1.2.2.2.2.2.1 _ (List.mem_of_getElem? (i := 0) rfl))) g1 g2 g3 ?_
      refine lv_astore (lv' := [(4, .ref q9), (0, .ref (b 0)), (1, .int x1), (2, .int x2), (3, .ref q1)]) C0.1 C0.2.1 dL_addFrog_13 hl (by decide) rfl (fun ls hl => ?_)
      refine lv_iconst (v := 1) C0.1 C0.2.1 dL_addFrog_15 (by decide) ?_
      exact e_h C0 rfl hI hr hlocks (by rw [cxl e1]; decide) (by rw [oul e1]) rfl dL_addFrog_16
    · subst e
      refine vx_catch C0.2.2.2.1 (tableOf [(0, 10, 13, 13)]) ⟨0, 10, 17, 15⟩ (tableOf [(0, 10, 21, 17)]) hTB (List.forall_mem_cons.mpr ⟨Or.inr ⟨by decide, "java/lang/IndexOutOfBoundsException", C0.2.2.2.2 _ w_749, C1.2.2.2.2.2.2.1 _ (List.mem_of_getElem? (i := 0) rfl)⟩, fun _ h => absurd h List.not_mem_nil⟩) (by decide) (by decide) (C0.2.2.2.2 _ w_770) (va_Nw.use rfl (C1.2.2.2.2.2.1 _ (List.mem_of_getElem? (i := 1) rfl))) g1 g2 g3 ?_
      refine lv_astore (lv' := [(4, .ref q9), (0, .ref (b 0)), (1, .int x1), (2, .int x2), (3, .ref q1)]) C0.1 C0.2.1 dL_addFrog_17 hl (by decide) rfl (fun ls hl => ?_)
      refine lv_iconst (v := 2) C0.1 C0.2.1 dL_addFrog_19 (by decide) ?_
      exact e_h C0 rfl hI hr hlocks (by rw [cxl e1]; decide) (by rw [oul e1]) rfl dL_addFrog_20
    · subst e
      refine vx_catch C0.2.2.2.1 (tableOf [(0, 10, 13, 13), (0, 10, 17, 15)]) ⟨0, 10, 21, 17⟩ (tableOf []) hTB (List.forall_mem_cons.mpr ⟨Or.inr ⟨by decide, "java/lang/IndexOutOfBoundsException", C0.2.2.2.2 _ w_749, C1.2.2.2.2.2.2.1 _ (List.mem_of_getElem? (i := 1) rfl)⟩, List.forall_mem_cons.mpr ⟨Or.inr ⟨by decide, "java/lang/IllegalArgumentException", C0.2.2.2.2 _ w_770, C1.2.2.2.2.2.2.1 _ (List.mem_of_getElem? (i := 6) rfl)⟩, fun _ h => absurd h List.not_mem_nil⟩⟩) (by decide) (by decide) (C0.2.2.2.2 _ w_771) (va_Nw.use rfl (C1.2.2.2.2.2.1 _ (List.mem_of_getElem? (i := 2) rfl))) g1 g2 g3 ?_
      refine lv_astore (lv' := [(4, .ref q9), (0, .ref (b 0)), (1, .int x1), (2, .int x2), (3, .ref q1)]) C0.1 C0.2.1 dL_addFrog_21 hl (by decide) rfl (fun ls hl => ?_)
      refine lv_iconst (v := 3) C0.1 C0.2.1 dL_addFrog_23 (by decide) ?_
      exact e_h C0 rfl hI hr hlocks (by rw [cxl e1]; decide) (by rw [oul e1]) rfl dL_addFrog_24
  · refine lv_i2l C0.1 C0.2.1 dL_addFrog_8 rfl ?_
    refine o_last (W1 := xb g r T) 2 rfl C0 C1 hI dL_addFrog_9 (fun H locs eA C1 hI => ?_)
    refine lv_goto (tgt := 25) C0.1 C0.2.1 dL_addFrog_10 (by decide) ?_
    refine lv_iconst (v := 0) C0.1 C0.2.1 dL_addFrog_25 (by decide) ?_
    exact e_h C0 eA hI hr hlocks (cxr e1).symm (by rw [our (f := ciI) e1]) rfl dL_addFrog_26

theorem hd_L_addPad : yL_addPad.cls ≠ "java/lang/invoke/MethodHandle" ∧ yL_addPad.cls ≠ "java/lang/invoke/VarHandle" ∧ (parseMethodDescriptor yL_addPad.desc).map (fun d => d.parameters.length) = some 3 := ⟨by decide +kernel, by decide +kernel, by decide +kernel⟩
set_option maxHeartbeats 4000000 in
theorem h_addPad (l : Launch) (hl0 : l.stackTraces = false) (g : GG) (Y : va_W) (r b : Nat → Nat) (sz n : Nat) (T M : Mem) (q1 q2 : Nat) (o : Nat → Int64) (d : Nat → UInt64) (x1 : Int32) {q0 : RX Int32} {M' : Mem} (hf : F_X9_addPad n x1 M = some (q0, M')) (hk : ∀ k, q0 = .inl k → k = 1 ∨ k = 0) : Met l yL_addPad (.codeWith yL_addPad method_4_code 4 (some .int) [(0, 9, 12, 15), (0, 9, 15, 17)] :: LWg) (rmD 11 1 6) (va_Pc [.ref (b 0), .int x1, .ref q1] (PreP g (xb g r T ++ (outs g q1 q2 o d ++ Y)) 372 (shI g r b) b sz M)) (va_Qi (fun res (_ : Unit) => res = cx [1, 0] q0) (fun _ t => PoP g (xb g r T ++ (outs g q1 q2 (ou ciI o q0) d ++ Y)) 372 (shI g r b) b M' t) (AA (xb g r T ++ (outs g q1 q2 o d ++ Y)) b 372 sz)) 1 6 (AA (xb g r T ++ (outs g q1 q2 o d ++ Y)) b 372 sz) := by
  refine metH_go (by decide +kernel) rfl (Nat.le_of_ble_eq_true rfl) ?_
  intro p e s m below meth c ls H locs C0 C1 hr hlocks hTB hsz hl hI
  subst hsz
  have hl : lv_has ls 4 [(0, .ref (b 0)), (1, .int x1), (2, .ref q1)] := hl
  refine lv_aload_n C0.1 C0.2.1 dL_addPad_0 rfl (lv_at hl 2 rfl) ?_
  refine lv_iconst (v := 0) C0.1 C0.2.1 dL_addPad_1 (by decide) ?_
  refine lv_aload_n C0.1 C0.2.1 dL_addPad_2 rfl (lv_at hl 0 rfl) ?_
  refine lv_iload_n C0.1 C0.2.1 dL_addPad_3 rfl (lv_at hl 1 rfl) ?_
  refine kx_i C1 hI (qx_V (As := [.int x1]) C0 C1 hI 0 (c_X9_addPad l hl0 g (xb g r T ++ (outs g q1 q2 o d ++ Y)) r b H.size n M x1 hf) w_798 w_799 w_800 w_119 w_801 ⟨rfl, rfl⟩ hd_X9_addPad ⟨Nat.le_of_ble_eq_true rfl, Nat.le_of_ble_eq_true rfl⟩ (kdlt0 (rfl : kdI 0 = 0)) (shI_0 (rfl : kdI 0 = 0) _) rfl rfl rfl hl.1 rfl (Nat.le_of_ble_eq_true rfl) dL_addPad_4 ⟨Nat.le_of_ble_eq_true rfl, Nat.le_of_ble_eq_true rfl⟩) (fun k H locs ce q9 e1 hI g1 g2 g3 => ?_) (fun v H locs e1 hI => ?_)
  · rcases hk k e1 with e | e
    · subst e
      refine vx_catch C0.2.2.2.1 (tableOf []) ⟨0, 9, 12, 15⟩ (tableOf [(0, 9, 15, 17)]) hTB (fun z hz => nomatch hz) (by decide) (by decide) (C0.2.2.2.2 _ w_770) (va_Nw.use rfl (C1.2.2.2.2.2.1 _ (List.mem_of_getElem? (i := 1) rfl))) g1 g2 g3 ?_
      refine lv_astore_n (lv' := [(3, .ref q9), (0, .ref (b 0)), (1, .int x1), (2, .ref q1)]) C0.1 C0.2.1 dL_addPad_12 rfl hl (by decide) rfl (fun ls hl => ?_)
      refine lv_iconst (v := 1) C0.1 C0.2.1 dL_addPad_13 (by decide) ?_
      exact e_h C0 rfl hI hr hlocks (by rw [cxl e1]; decide) (by rw [oul e1]) rfl dL_addPad_14
    · subst e
      refine vx_catch C0.2.2.2.1 (tableOf [(0, 9, 12, 15)]) ⟨0, 9, 15, 17⟩ (tableOf []) hTB (List.forall_mem_cons.mpr ⟨Or.inr ⟨by decide, "java/lang/IllegalArgumentException", C0.2.2.2.2 _ w_770, C1.2.2.2.2.2.2.1 _ (List.mem_of_getElem? (i := 6) rfl)⟩, fun _ h => absurd h List.not_mem_nil⟩) (by decide) (by decide) (C0.2.2.2.2 _ w_771) (va_Nw.use rfl (C1.2.2.2.2.2.1 _ (List.mem_of_getElem? (i := 2) rfl))) g1 g2 g3 ?_
      refine lv_astore_n (lv' := [(3, .ref q9), (0, .ref (b 0)), (1, .int x1), (2, .ref q1)]) C0.1 C0.2.1 dL_addPad_15 rfl hl (by decide) rfl (fun ls hl => ?_)
      refine lv_iconst (v := 2) C0.1 C0.2.1 dL_addPad_16 (by decide) ?_
      exact e_h C0 rfl hI hr hlocks (by rw [cxl e1]; decide) (by rw [oul e1]) rfl dL_addPad_17
  · refine lv_i2l C0.1 C0.2.1 dL_addPad_7 rfl ?_
    refine o_last (W1 := xb g r T) 2 rfl C0 C1 hI dL_addPad_8 (fun H locs eA C1 hI => ?_)
    refine lv_goto (tgt := 18) C0.1 C0.2.1 dL_addPad_9 (by decide) ?_
    refine lv_iconst (v := 0) C0.1 C0.2.1 dL_addPad_18 (by decide) ?_
    exact e_h C0 eA hI hr hlocks (cxr e1).symm (by rw [our (f := ciI) e1]) rfl dL_addPad_19

theorem hd_L_hop : yL_hop.cls ≠ "java/lang/invoke/MethodHandle" ∧ yL_hop.cls ≠ "java/lang/invoke/VarHandle" ∧ (parseMethodDescriptor yL_hop.desc).map (fun d => d.parameters.length) = some 4 := ⟨by decide +kernel, by decide +kernel, by decide +kernel⟩
set_option maxHeartbeats 4000000 in
theorem h_hop (l : Launch) (hl0 : l.stackTraces = false) (g : GG) (Y : va_W) (r b : Nat → Nat) (sz n : Nat) (T M : Mem) (q1 q2 : Nat) (o : Nat → Int64) (d : Nat → UInt64) (x1 : Int32) (x2 : Int32) {q0 : RX Int32} {M' : Mem} (hf : F_X9_hop n x1 x2 M = some (q0, M')) (hk : ∀ k, q0 = .inl k → k = 2 ∨ k = 0) : Met l yL_hop (.codeWith yL_hop method_5_code 5 (some .int) [(0, 10, 13, 13), (0, 10, 17, 17)] :: LWg) (rmD 11 1 6) (va_Pc [.ref (b 0), .int x1, .int x2, .ref q1] (PreP g (xb g r T ++ (outs g q1 q2 o d ++ Y)) 372 (shI g r b) b sz M)) (va_Qi (fun res (_ : Unit) => res = cx [2, 0] q0) (fun _ t => PoP g (xb g r T ++ (outs g q1 q2 (ou ciI o q0) d ++ Y)) 372 (shI g r b) b M' t) (AA (xb g r T ++ (outs g q1 q2 o d ++ Y)) b 372 sz)) 1 6 (AA (xb g r T ++ (outs g q1 q2 o d ++ Y)) b 372 sz) := by
  refine metH_go (by decide +kernel) rfl (Nat.le_of_ble_eq_true rfl) ?_
  intro p e s m below meth c ls H locs C0 C1 hr hlocks hTB hsz hl hI
  subst hsz
  have hl : lv_has ls 5 [(0, .ref (b 0)), (1, .int x1), (2, .int x2), (3, .ref q1)] := hl
  refine lv_aload_n C0.1 C0.2.1 dL_hop_0 rfl (lv_at hl 3 rfl) ?_
  refine lv_iconst (v := 0) C0.1 C0.2.1 dL_hop_1 (by decide) ?_
  refine lv_aload_n C0.1 C0.2.1 dL_hop_2 rfl (lv_at hl 0 rfl) ?_
  refine lv_iload_n C0.1 C0.2.1 dL_hop_3 rfl (lv_at hl 1 rfl) ?_
  refine lv_iload_n C0.1 C0.2.1 dL_hop_4 rfl (lv_at hl 2 rfl) ?_
  refine kx_i C1 hI (qx_V (As := [.int x1, .int x2]) C0 C1 hI 0 (c_X9_hop l hl0 g (xb g r T ++ (outs g q1 q2 o d ++ Y)) r b H.size n M x1 x2 hf) w_815 w_816 w_817 w_119 w_818 ⟨rfl, rfl⟩ hd_X9_hop ⟨Nat.le_of_ble_eq_true rfl, Nat.le_of_ble_eq_true rfl⟩ (kdlt0 (rfl : kdI 0 = 0)) (shI_0 (rfl : kdI 0 = 0) _) rfl rfl rfl hl.1 rfl (Nat.le_of_ble_eq_true rfl) dL_hop_5 ⟨Nat.le_of_ble_eq_true rfl, Nat.le_of_ble_eq_true rfl⟩) (fun k H locs ce q9 e1 hI g1 g2 g3 => ?_) (fun v H locs e1 hI => ?_)
  · rcases hk k e1 with e | e
    · subst e
      refine vx_catch C0.2.2.2.1 (tableOf []) ⟨0, 10, 13, 13⟩ (tableOf [(0, 10, 17, 17)]) hTB (fun z hz => nomatch hz) (by decide) (by decide) (C0.2.2.2.2 _ w_749) (va_Nw.use rfl (C1.2.2.2.2.2.1 _ (List.mem_of_getElem? (i := 0) rfl))) g1 g2 g3 ?_
      refine lv_astore (lv' := [(4, .ref q9), (0, .ref (b 0)), (1, .int x1), (2, .int x2), (3, .ref q1)]) C0.1 C0.2.1 dL_hop_13 hl (by decide) rfl (fun ls hl => ?_)
      refine lv_iconst (v := 1) C0.1 C0.2.1 dL_hop_15 (by decide) ?_
      exact e_h C0 rfl hI hr hlocks (by rw [cxl e1]; decide) (by rw [oul e1]) rfl dL_hop_16
    · subst e
      refine vx_catch C0.2.2.2.1 (tableOf [(0, 10, 13, 13)]) ⟨0, 10, 17, 17⟩ (tableOf []) hTB (List.forall_mem_cons.mpr ⟨Or.inr ⟨by decide, "java/lang/IndexOutOfBoundsException", C0.2.2.2.2 _ w_749, C1.2.2.2.2.2.2.1 _ (List.mem_of_getElem? (i := 1) rfl)⟩, fun _ h => absurd h List.not_mem_nil⟩) (by decide) (by decide) (C0.2.2.2.2 _ w_771) (va_Nw.use rfl (C1.2.2.2.2.2.1 _ (List.mem_of_getElem? (i := 2) rfl))) g1 g2 g3 ?_
      refine lv_astore (lv' := [(4, .ref q9), (0, .ref (b 0)), (1, .int x1), (2, .int x2), (3, .ref q1)]) C0.1 C0.2.1 dL_hop_17 hl (by decide) rfl (fun ls hl => ?_)
      refine lv_iconst (v := 2) C0.1 C0.2.1 dL_hop_19 (by decide) ?_
      exact e_h C0 rfl hI hr hlocks (by rw [cxl e1]; decide) (by rw [oul e1]) rfl dL_hop_20
  · refine lv_i2l C0.1 C0.2.1 dL_hop_8 rfl ?_
    refine o_last (W1 := xb g r T) 2 rfl C0 C1 hI dL_hop_9 (fun H locs eA C1 hI => ?_)
    refine lv_goto (tgt := 21) C0.1 C0.2.1 dL_hop_10 (by decide) ?_
    refine lv_iconst (v := 0) C0.1 C0.2.1 dL_hop_21 (by decide) ?_
    exact e_h C0 eA hI hr hlocks (cxr e1).symm (by rw [our (f := ciI) e1]) rfl dL_hop_22

theorem hd_L_dive : yL_dive.cls ≠ "java/lang/invoke/MethodHandle" ∧ yL_dive.cls ≠ "java/lang/invoke/VarHandle" ∧ (parseMethodDescriptor yL_dive.desc).map (fun d => d.parameters.length) = some 3 := ⟨by decide +kernel, by decide +kernel, by decide +kernel⟩
set_option maxHeartbeats 4000000 in
theorem h_dive (l : Launch) (hl0 : l.stackTraces = false) (g : GG) (Y : va_W) (r b : Nat → Nat) (sz n : Nat) (T M : Mem) (q1 q2 : Nat) (o : Nat → Int64) (d : Nat → UInt64) (x1 : Int32) {q0 : RX Int32} {M' : Mem} (hf : F_X9_dive n x1 M = some (q0, M')) (hk : ∀ k, q0 = .inl k → k = 2 ∨ k = 0) : Met l yL_dive (.codeWith yL_dive method_6_code 4 (some .int) [(0, 9, 12, 13), (0, 9, 15, 17)] :: LWg) (rmD 11 1 6) (va_Pc [.ref (b 0), .int x1, .ref q1] (PreP g (xb g r T ++ (outs g q1 q2 o d ++ Y)) 372 (shI g r b) b sz M)) (va_Qi (fun res (_ : Unit) => res = cx [2, 0] q0) (fun _ t => PoP g (xb g r T ++ (outs g q1 q2 (ou ciI o q0) d ++ Y)) 372 (shI g r b) b M' t) (AA (xb g r T ++ (outs g q1 q2 o d ++ Y)) b 372 sz)) 1 6 (AA (xb g r T ++ (outs g q1 q2 o d ++ Y)) b 372 sz) := by
  refine metH_go (by decide +kernel) rfl (Nat.le_of_ble_eq_true rfl) ?_
  intro p e s m below meth c ls H locs C0 C1 hr hlocks hTB hsz hl hI
  subst hsz
  have hl : lv_has ls 4 [(0, .ref (b 0)), (1, .int x1), (2, .ref q1)] := hl
  refine lv_aload_n C0.1 C0.2.1 dL_dive_0 rfl (lv_at hl 2 rfl) ?_
  refine lv_iconst (v := 0) C0.1 C0.2.1 dL_dive_1 (by decide) ?_
  refine lv_aload_n C0.1 C0.2.1 dL_dive_2 rfl (lv_at hl 0 rfl) ?_
  refine lv_iload_n C0.1 C0.2.1 dL_dive_3 rfl (lv_at hl 1 rfl) ?_
  refine kx_i C1 hI (qx_V (As := [.int x1]) C0 C1 hI 0 (c_X9_dive l hl0 g (xb g r T ++ (outs g q1 q2 o d ++ Y)) r b H.size n M x1 hf) w_847 w_848 w_849 w_119 w_850 ⟨rfl, rfl⟩ hd_X9_dive ⟨Nat.le_of_ble_eq_true rfl, Nat.le_of_ble_eq_true rfl⟩ (kdlt0 (rfl : kdI 0 = 0)) (shI_0 (rfl : kdI 0 = 0) _) rfl rfl rfl hl.1 rfl (Nat.le_of_ble_eq_true rfl) dL_dive_4 ⟨Nat.le_of_ble_eq_true rfl, Nat.le_of_ble_eq_true rfl⟩) (fun k H locs ce q9 e1 hI g1 g2 g3 => ?_) (fun v H locs e1 hI => ?_)
  · rcases hk k e1 with e | e
    · subst e
      refine vx_catch C0.2.2.2.1 (tableOf []) ⟨0, 9, 12, 13⟩ (tableOf [(0, 9, 15, 17)]) hTB (fun z hz => nomatch hz) (by decide) (by decide) (C0.2.2.2.2 _ w_749) (va_Nw.use rfl (C1.2.2.2.2.2.1 _ (List.mem_of_getElem? (i := 0) rfl))) g1 g2 g3 ?_
      refine lv_astore_n (lv' := [(3, .ref q9), (0, .ref (b 0)), (1, .int x1), (2, .ref q1)]) C0.1 C0.2.1 dL_dive_12 rfl hl (by decide) rfl (fun ls hl => ?_)
      refine lv_iconst (v := 1) C0.1 C0.2.1 dL_dive_13 (by decide) ?_
      exact e_h C0 rfl hI hr hlocks (by rw [cxl e1]; decide) (by rw [oul e1]) rfl dL_dive_14
    · subst e
      refine vx_catch C0.2.2.2.1 (tableOf [(0, 9, 12, 13)]) ⟨0, 9, 15, 17⟩ (tableOf []) hTB (List.forall_mem_cons.mpr ⟨Or.inr ⟨by decide, "java/lang/IndexOutOfBoundsException", C0.2.2.2.2 _ w_749, C1.2.2.2.2.2.2.1 _ (List.mem_of_getElem? (i := 1) rfl)⟩, fun _ h => absurd h List.not_mem_nil⟩) (by decide) (by decide) (C0.2.2.2.2 _ w_771) (va_Nw.use rfl (C1.2.2.2.2.2.1 _ (List.mem_of_getElem? (i := 2) rfl))) g1 g2 g3 ?_
      refine lv_astore_n (lv' := [(3, .ref q9), (0, .ref (b 0)), (1, .int x1), (2, .ref q1)]) C0.1 C0.2.1 dL_dive_15 rfl hl (by decide) rfl (fun ls hl => ?_)
      refine lv_iconst (v := 2) C0.1 C0.2.1 dL_dive_16 (by decide) ?_
      exact e_h C0 rfl hI hr hlocks (by rw [cxl e1]; decide) (by rw [oul e1]) rfl dL_dive_17
  · refine lv_i2l C0.1 C0.2.1 dL_dive_7 rfl ?_
    refine o_last (W1 := xb g r T) 2 rfl C0 C1 hI dL_dive_8 (fun H locs eA C1 hI => ?_)
    refine lv_goto (tgt := 18) C0.1 C0.2.1 dL_dive_9 (by decide) ?_
    refine lv_iconst (v := 0) C0.1 C0.2.1 dL_dive_18 (by decide) ?_
    exact e_h C0 eA hI hr hlocks (cxr e1).symm (by rw [our (f := ciI) e1]) rfl dL_dive_19

theorem hd_L_pondOf : yL_pondOf.cls ≠ "java/lang/invoke/MethodHandle" ∧ yL_pondOf.cls ≠ "java/lang/invoke/VarHandle" ∧ (parseMethodDescriptor yL_pondOf.desc).map (fun d => d.parameters.length) = some 3 := ⟨by decide +kernel, by decide +kernel, by decide +kernel⟩
set_option maxHeartbeats 4000000 in
theorem h_pondOf (l : Launch) (hl0 : l.stackTraces = false) (g : GG) (Y : va_W) (r b : Nat → Nat) (sz n : Nat) (T M : Mem) (q1 q2 : Nat) (o : Nat → Int64) (d : Nat → UInt64) (x1 : Int32) {q0 : RX Int32} (hf : F_X9_pondOf n x1 M = some q0) (hk : ∀ k, q0 = .inl k → k = 2) : Met l yL_pondOf (.codeWith yL_pondOf method_7_code 4 (some .int) [(0, 9, 12, 13)] :: LWg) (rmD 12 1 6) (va_Pc [.ref (b 0), .int x1, .ref q1] (PreP g (xb g r T ++ (outs g q1 q2 o d ++ Y)) 372 (shI g r b) b sz M)) (va_Qi (fun res (_ : Unit) => res = cx [2] q0) (fun _ t => PoP g (xb g r T ++ (outs g q1 q2 (ou ciI o q0) d ++ Y)) 372 (shI g r b) b M t) (AA (xb g r T ++ (outs g q1 q2 o d ++ Y)) b 372 sz)) 1 6 (AA (xb g r T ++ (outs g q1 q2 o d ++ Y)) b 372 sz) := by
  refine metH_go (by decide +kernel) rfl (Nat.le_of_ble_eq_true rfl) ?_
  intro p e s m below meth c ls H locs C0 C1 hr hlocks hTB hsz hl hI
  subst hsz
  have hl : lv_has ls 4 [(0, .ref (b 0)), (1, .int x1), (2, .ref q1)] := hl
  refine lv_aload_n C0.1 C0.2.1 dL_pondOf_0 rfl (lv_at hl 2 rfl) ?_
  refine lv_iconst (v := 0) C0.1 C0.2.1 dL_pondOf_1 (by decide) ?_
  refine lv_aload_n C0.1 C0.2.1 dL_pondOf_2 rfl (lv_at hl 0 rfl) ?_
  refine lv_iload_n C0.1 C0.2.1 dL_pondOf_3 rfl (lv_at hl 1 rfl) ?_
  refine kx_i C1 hI (qx_V (As := [.int x1]) C0 C1 hI 0 (c_X9_pondOf l hl0 g (xb g r T ++ (outs g q1 q2 o d ++ Y)) r b H.size n M x1 hf) w_868 w_869 w_870 w_119 w_871 ⟨rfl, rfl⟩ hd_X9_pondOf ⟨Nat.le_of_ble_eq_true rfl, Nat.le_of_ble_eq_true rfl⟩ (kdlt0 (rfl : kdI 0 = 0)) (shI_0 (rfl : kdI 0 = 0) _) rfl rfl rfl hl.1 rfl (Nat.le_of_ble_eq_true rfl) dL_pondOf_4 ⟨Nat.le_of_ble_eq_true rfl, Nat.le_of_ble_eq_true rfl⟩) (fun k H locs ce q9 e1 hI g1 g2 g3 => ?_) (fun v H locs e1 hI => ?_)
  · rcases hk k e1 with e
    · subst e
      refine vx_catch C0.2.2.2.1 (tableOf []) ⟨0, 9, 12, 13⟩ (tableOf []) hTB (fun z hz => nomatch hz) (by decide) (by decide) (C0.2.2.2.2 _ w_749) (va_Nw.use rfl (C1.2.2.2.2.2.1 _ (List.mem_of_getElem? (i := 0) rfl))) g1 g2 g3 ?_
      refine lv_astore_n (lv' := [(3, .ref q9), (0, .ref (b 0)), (1, .int x1), (2, .ref q1)]) C0.1 C0.2.1 dL_pondOf_12 rfl hl (by decide) rfl (fun ls hl => ?_)
      refine lv_iconst (v := 1) C0.1 C0.2.1 dL_pondOf_13 (by decide) ?_
      exact e_h C0 rfl hI hr hlocks (by rw [cxl e1]; decide) (by rw [oul e1]) rfl dL_pondOf_14
  · refine lv_i2l C0.1 C0.2.1 dL_pondOf_7 rfl ?_
    refine o_last (W1 := xb g r T) 2 rfl C0 C1 hI dL_pondOf_8 (fun H locs eA C1 hI => ?_)
    refine lv_goto (tgt := 15) C0.1 C0.2.1 dL_pondOf_9 (by decide) ?_
    refine lv_iconst (v := 0) C0.1 C0.2.1 dL_pondOf_15 (by decide) ?_
    exact e_h C0 eA hI hr hlocks (cxr e1).symm (by rw [our (f := ciI) e1]) rfl dL_pondOf_16

theorem hd_L_weightOf : yL_weightOf.cls ≠ "java/lang/invoke/MethodHandle" ∧ yL_weightOf.cls ≠ "java/lang/invoke/VarHandle" ∧ (parseMethodDescriptor yL_weightOf.desc).map (fun d => d.parameters.length) = some 3 := ⟨by decide +kernel, by decide +kernel, by decide +kernel⟩
set_option maxHeartbeats 4000000 in
theorem h_weightOf (l : Launch) (hl0 : l.stackTraces = false) (g : GG) (Y : va_W) (r b : Nat → Nat) (sz n : Nat) (T M : Mem) (q1 q2 : Nat) (o : Nat → Int64) (d : Nat → UInt64) (x1 : Int32) {q0 : RX Int32} (hf : F_X9_weightOf n x1 M = some q0) (hk : ∀ k, q0 = .inl k → k = 2) : Met l yL_weightOf (.codeWith yL_weightOf method_8_code 4 (some .int) [(0, 9, 12, 13)] :: LWg) (rmD 12 1 6) (va_Pc [.ref (b 0), .int x1, .ref q1] (PreP g (xb g r T ++ (outs g q1 q2 o d ++ Y)) 372 (shI g r b) b sz M)) (va_Qi (fun res (_ : Unit) => res = cx [2] q0) (fun _ t => PoP g (xb g r T ++ (outs g q1 q2 (ou ciI o q0) d ++ Y)) 372 (shI g r b) b M t) (AA (xb g r T ++ (outs g q1 q2 o d ++ Y)) b 372 sz)) 1 6 (AA (xb g r T ++ (outs g q1 q2 o d ++ Y)) b 372 sz) := by
  refine metH_go (by decide +kernel) rfl (Nat.le_of_ble_eq_true rfl) ?_
  intro p e s m below meth c ls H locs C0 C1 hr hlocks hTB hsz hl hI
  subst hsz
  have hl : lv_has ls 4 [(0, .ref (b 0)), (1, .int x1), (2, .ref q1)] := hl
  refine lv_aload_n C0.1 C0.2.1 dL_weightOf_0 rfl (lv_at hl 2 rfl) ?_
  refine lv_iconst (v := 0) C0.1 C0.2.1 dL_weightOf_1 (by decide) ?_
  refine lv_aload_n C0.1 C0.2.1 dL_weightOf_2 rfl (lv_at hl 0 rfl) ?_
  refine lv_iload_n C0.1 C0.2.1 dL_weightOf_3 rfl (lv_at hl 1 rfl) ?_
  refine kx_i C1 hI (qx_V (As := [.int x1]) C0 C1 hI 0 (c_X9_weightOf l hl0 g (xb g r T ++ (outs g q1 q2 o d ++ Y)) r b H.size n M x1 hf) w_881 w_882 w_883 w_119 w_884 ⟨rfl, rfl⟩ hd_X9_weightOf ⟨Nat.le_of_ble_eq_true rfl, Nat.le_of_ble_eq_true rfl⟩ (kdlt0 (rfl : kdI 0 = 0)) (shI_0 (rfl : kdI 0 = 0) _) rfl rfl rfl hl.1 rfl (Nat.le_of_ble_eq_true rfl) dL_weightOf_4 ⟨Nat.le_of_ble_eq_true rfl, Nat.le_of_ble_eq_true rfl⟩) (fun k H locs ce q9 e1 hI g1 g2 g3 => ?_) (fun v H locs e1 hI => ?_)
  · rcases hk k e1 with e
    · subst e
      refine vx_catch C0.2.2.2.1 (tableOf []) ⟨0, 9, 12, 13⟩ (tableOf []) hTB (fun z hz => nomatch hz) (by decide) (by decide) (C0.2.2.2.2 _ w_749) (va_Nw.use rfl (C1.2.2.2.2.2.1 _ (List.mem_of_getElem? (i := 0) rfl))) g1 g2 g3 ?_
      refine lv_astore_n (lv' := [(3, .ref q9), (0, .ref (b 0)), (1, .int x1), (2, .ref q1)]) C0.1 C0.2.1 dL_weightOf_12 rfl hl (by decide) rfl (fun ls hl => ?_)
      refine lv_iconst (v := 1) C0.1 C0.2.1 dL_weightOf_13 (by decide) ?_
      exact e_h C0 rfl hI hr hlocks (by rw [cxl e1]; decide) (by rw [oul e1]) rfl dL_weightOf_14
  · refine lv_i2l C0.1 C0.2.1 dL_weightOf_7 rfl ?_
    refine o_last (W1 := xb g r T) 2 rfl C0 C1 hI dL_weightOf_8 (fun H locs eA C1 hI => ?_)
    refine lv_goto (tgt := 15) C0.1 C0.2.1 dL_weightOf_9 (by decide) ?_
    refine lv_iconst (v := 0) C0.1 C0.2.1 dL_weightOf_15 (by decide) ?_
    exact e_h C0 eA hI hr hlocks (cxr e1).symm (by rw [our (f := ciI) e1]) rfl dL_weightOf_16

theorem hd_L_padOf : yL_padOf.cls ≠ "java/lang/invoke/MethodHandle" ∧ yL_padOf.cls ≠ "java/lang/invoke/VarHandle" ∧ (parseMethodDescriptor yL_padOf.desc).map (fun d => d.parameters.length) = some 3 := ⟨by decide +kernel, by decide +kernel, by decide +kernel⟩
set_option maxHeartbeats 4000000 in
theorem h_padOf (l : Launch) (hl0 : l.stackTraces = false) (g : GG) (Y : va_W) (r b : Nat → Nat) (sz n : Nat) (T M : Mem) (q1 q2 : Nat) (o : Nat → Int64) (d : Nat → UInt64) (x1 : Int32) {q0 : RX Int32} (hf : F_X9_padOf n x1 M = some q0) (hk : ∀ k, q0 = .inl k → k = 2 ∨ k = 5) : Met l yL_padOf (.codeWith yL_padOf method_9_code 4 (some .int) [(0, 9, 12, 13), (0, 9, 15, 38)] :: LWg) (rmD 12 2 12) (va_Pc [.ref (b 0), .int x1, .ref q1] (PreP g (xb g r T ++ (outs g q1 q2 o d ++ Y)) 372 (shI g r b) b sz M)) (va_Qi (fun res (_ : Unit) => res = cx [2, 5] q0) (fun _ t => PoP g (xb g r T ++ (outs g q1 q2 (ou ciI o q0) d ++ Y)) 372 (shI g r b) b M t) (AA (xb g r T ++ (outs g q1 q2 o d ++ Y)) b 372 sz)) 2 12 (AA (xb g r T ++ (outs g q1 q2 o d ++ Y)) b 372 sz) := by
  refine metH_go (by decide +kernel) rfl (Nat.le_of_ble_eq_true rfl) ?_
  intro p e s m below meth c ls H locs C0 C1 hr hlocks hTB hsz hl hI
  subst hsz
  have hl : lv_has ls 4 [(0, .ref (b 0)), (1, .int x1), (2, .ref q1)] := hl
  refine lv_aload_n C0.1 C0.2.1 dL_padOf_0 rfl (lv_at hl 2 rfl) ?_
  refine lv_iconst (v := 0) C0.1 C0.2.1 dL_padOf_1 (by decide) ?_
  refine lv_aload_n C0.1 C0.2.1 dL_padOf_2 rfl (lv_at hl 0 rfl) ?_
  refine lv_iload_n C0.1 C0.2.1 dL_padOf_3 rfl (lv_at hl 1 rfl) ?_
  refine kx_i C1 hI (qx_V (As := [.int x1]) C0 C1 hI 0 (c_X9_padOf l hl0 g (xb g r T ++ (outs g q1 q2 o d ++ Y)) r b H.size n M x1 hf) w_889 w_890 w_891 w_119 w_892 ⟨rfl, rfl⟩ hd_X9_padOf ⟨Nat.le_of_ble_eq_true rfl, Nat.le_of_ble_eq_true rfl⟩ (kdlt0 (rfl : kdI 0 = 0)) (shI_0 (rfl : kdI 0 = 0) _) rfl rfl rfl hl.1 rfl (Nat.le_of_ble_eq_true rfl) dL_padOf_4 ⟨Nat.le_of_ble_eq_true rfl, Nat.le_of_ble_eq_true rfl⟩) (fun k H locs ce q9 e1 hI g1 g2 g3 => ?_) (fun v H locs e1 hI => ?_)
  · rcases hk k e1 with e | e
    · subst e
      refine vx_catch C0.2.2.2.1 (tableOf []) ⟨0, 9, 12, 13⟩ (tableOf [(0, 9, 15, 38)]) hTB (fun z hz => nomatch hz) (by decide) (by decide) (C0.2.2.2.2 _ w_749) (va_Nw.use rfl (C1.2.2.2.2.2.1 _ (List.mem_of_getElem? (i := 0) rfl))) g1 g2 g3 ?_
      refine lv_astore_n (lv' := [(3, .ref q9), (0, .ref (b 0)), (1, .int x1), (2, .ref q1)]) C0.1 C0.2.1 dL_padOf_12 rfl hl (by decide) rfl (fun ls hl => ?_)
      refine lv_iconst (v := 1) C0.1 C0.2.1 dL_padOf_13 (by decide) ?_
      exact e_h C0 rfl hI hr hlocks (by rw [cxl e1]; decide) (by rw [oul e1]) rfl dL_padOf_14
    · subst e
      refine vx_catch C0.2.2.2.1 (tableOf [(0, 9, 12, 13)]) ⟨0, 9, 15, 38⟩ (tableOf []) hTB (List.forall_mem_cons.mpr ⟨Or.inr ⟨by decide, "java/lang/IndexOutOfBoundsException", C0.2.2.2.2 _ w_749, C1.2.2.2.2.2.2.1 _ (List.mem_of_getElem? (i := 3) rfl)⟩, fun _ h => absurd h List.not_mem_nil⟩) (by decide) (by decide) (C0.2.2.2.2 _ w_888) (va_Nw.use rfl (C1.2.2.2.2.2.1 _ (List.mem_of_getElem? (i := 4) rfl))) g1 g2 g3 ?_
      refine lv_astore_n (lv' := [(3, .ref q9), (0, .ref (b 0)), (1, .int x1), (2, .ref q1)]) C0.1 C0.2.1 dL_padOf_15 rfl hl (by decide) rfl (fun ls hl => ?_)
      refine lv_iconst (v := 2) C0.1 C0.2.1 dL_padOf_16 (by decide) ?_
      exact e_h C0 rfl hI hr hlocks (by rw [cxl e1]; decide) (by rw [oul e1]) rfl dL_padOf_17
  · refine lv_i2l C0.1 C0.2.1 dL_padOf_7 rfl ?_
    refine o_last (W1 := xb g r T) 2 rfl C0 C1 hI dL_padOf_8 (fun H locs eA C1 hI => ?_)
    refine lv_goto (tgt := 18) C0.1 C0.2.1 dL_padOf_9 (by decide) ?_
    refine lv_iconst (v := 0) C0.1 C0.2.1 dL_padOf_18 (by decide) ?_
    exact e_h C0 eA hI hr hlocks (cxr e1).symm (by rw [our (f := ciI) e1]) rfl dL_padOf_19

theorem hd_L_frogsOn : yL_frogsOn.cls ≠ "java/lang/invoke/MethodHandle" ∧ yL_frogsOn.cls ≠ "java/lang/invoke/VarHandle" ∧ (parseMethodDescriptor yL_frogsOn.desc).map (fun d => d.parameters.length) = some 3 := ⟨by decide +kernel, by decide +kernel, by decide +kernel⟩
set_option maxHeartbeats 4000000 in
theorem h_frogsOn (l : Launch) (hl0 : l.stackTraces = false) (g : GG) (Y : va_W) (r b : Nat → Nat) (sz n : Nat) (T M : Mem) (q1 q2 : Nat) (o : Nat → Int64) (d : Nat → UInt64) (x1 : Int32) {q0 : RX Int32} (hf : F_X9_frogsOn n x1 M = some q0) (hk : ∀ k, q0 = .inl k → k = 2) : Met l yL_frogsOn (.codeWith yL_frogsOn method_10_code 4 (some .int) [(0, 9, 12, 13)] :: LWg) (rmD 12 1 6) (va_Pc [.ref (b 0), .int x1, .ref q1] (PreP g (xb g r T ++ (outs g q1 q2 o d ++ Y)) 372 (shI g r b) b sz M)) (va_Qi (fun res (_ : Unit) => res = cx [2] q0) (fun _ t => PoP g (xb g r T ++ (outs g q1 q2 (ou ciI o q0) d ++ Y)) 372 (shI g r b) b M t) (AA (xb g r T ++ (outs g q1 q2 o d ++ Y)) b 372 sz)) 1 6 (AA (xb g r T ++ (outs g q1 q2 o d ++ Y)) b 372 sz) := by
  refine metH_go (by decide +kernel) rfl (Nat.le_of_ble_eq_true rfl) ?_
  intro p e s m below meth c ls H locs C0 C1 hr hlocks hTB hsz hl hI
  subst hsz
  have hl : lv_has ls 4 [(0, .ref (b 0)), (1, .int x1), (2, .ref q1)] := hl
  refine lv_aload_n C0.1 C0.2.1 dL_frogsOn_0 rfl (lv_at hl 2 rfl) ?_
  refine lv_iconst (v := 0) C0.1 C0.2.1 dL_frogsOn_1 (by decide) ?_
  refine lv_aload_n C0.1 C0.2.1 dL_frogsOn_2 rfl (lv_at hl 0 rfl) ?_
  refine lv_iload_n C0.1 C0.2.1 dL_frogsOn_3 rfl (lv_at hl 1 rfl) ?_
  refine kx_i C1 hI (qx_V (As := [.int x1]) C0 C1 hI 0 (c_X9_frogsOn l hl0 g (xb g r T ++ (outs g q1 q2 o d ++ Y)) r b H.size n M x1 hf) w_897 w_898 w_899 w_119 w_900 ⟨rfl, rfl⟩ hd_X9_frogsOn ⟨Nat.le_of_ble_eq_true rfl, Nat.le_of_ble_eq_true rfl⟩ (kdlt0 (rfl : kdI 0 = 0)) (shI_0 (rfl : kdI 0 = 0) _) rfl rfl rfl hl.1 rfl (Nat.le_of_ble_eq_true rfl) dL_frogsOn_4 ⟨Nat.le_of_ble_eq_true rfl, Nat.le_of_ble_eq_true rfl⟩) (fun k H locs ce q9 e1 hI g1 g2 g3 => ?_) (fun v H locs e1 hI => ?_)
  · rcases hk k e1 with e
    · subst e
      refine vx_catch C0.2.2.2.1 (tableOf []) ⟨0, 9, 12, 13⟩ (tableOf []) hTB (fun z hz => nomatch hz) (by decide) (by decide) (C0.2.2.2.2 _ w_749) (va_Nw.use rfl (C1.2.2.2.2.2.1 _ (List.mem_of_getElem? (i := 0) rfl))) g1 g2 g3 ?_
      refine lv_astore_n (lv' := [(3, .ref q9), (0, .ref (b 0)), (1, .int x1), (2, .ref q1)]) C0.1 C0.2.1 dL_frogsOn_12 rfl hl (by decide) rfl (fun ls hl => ?_)
      refine lv_iconst (v := 1) C0.1 C0.2.1 dL_frogsOn_13 (by decide) ?_
      exact e_h C0 rfl hI hr hlocks (by rw [cxl e1]; decide) (by rw [oul e1]) rfl dL_frogsOn_14
  · refine lv_i2l C0.1 C0.2.1 dL_frogsOn_7 rfl ?_
    refine o_last (W1 := xb g r T) 2 rfl C0 C1 hI dL_frogsOn_8 (fun H locs eA C1 hI => ?_)
    refine lv_goto (tgt := 15) C0.1 C0.2.1 dL_frogsOn_9 (by decide) ?_
    refine lv_iconst (v := 0) C0.1 C0.2.1 dL_frogsOn_15 (by decide) ?_
    exact e_h C0 eA hI hr hlocks (cxr e1).symm (by rw [our (f := ciI) e1]) rfl dL_frogsOn_16

theorem hd_L_padWeight : yL_padWeight.cls ≠ "java/lang/invoke/MethodHandle" ∧ yL_padWeight.cls ≠ "java/lang/invoke/VarHandle" ∧ (parseMethodDescriptor yL_padWeight.desc).map (fun d => d.parameters.length) = some 3 := ⟨by decide +kernel, by decide +kernel, by decide +kernel⟩
set_option maxHeartbeats 4000000 in
theorem h_padWeight (l : Launch) (hl0 : l.stackTraces = false) (g : GG) (Y : va_W) (r b : Nat → Nat) (sz n : Nat) (T M : Mem) (q1 q2 : Nat) (o : Nat → Int64) (d : Nat → UInt64) (x1 : Int32) {q0 : RX Int32} (hf : F_X9_padWeight n x1 M = some q0) (hk : ∀ k, q0 = .inl k → k = 2) : Met l yL_padWeight (.codeWith yL_padWeight method_11_code 4 (some .int) [(0, 9, 12, 13)] :: LWg) (rmD 12 1 6) (va_Pc [.ref (b 0), .int x1, .ref q1] (PreP g (xb g r T ++ (outs g q1 q2 o d ++ Y)) 372 (shI g r b) b sz M)) (va_Qi (fun res (_ : Unit) => res = cx [2] q0) (fun _ t => PoP g (xb g r T ++ (outs g q1 q2 (ou ciI o q0) d ++ Y)) 372 (shI g r b) b M t) (AA (xb g r T ++ (outs g q1 q2 o d ++ Y)) b 372 sz)) 1 6 (AA (xb g r T ++ (outs g q1 q2 o d ++ Y)) b 372 sz) := by
  refine metH_go (by decide +kernel) rfl (Nat.le_of_ble_eq_true rfl) ?_
  intro p e s m below meth c ls H locs C0 C1 hr hlocks hTB hsz hl hI
  subst hsz
  have hl : lv_has ls 4 [(0, .ref (b 0)), (1, .int x1), (2, .ref q1)] := hl
  refine lv_aload_n C0.1 C0.2.1 dL_padWeight_0 rfl (lv_at hl 2 rfl) ?_
  refine lv_iconst (v := 0) C0.1 C0.2.1 dL_padWeight_1 (by decide) ?_
  refine lv_aload_n C0.1 C0.2.1 dL_padWeight_2 rfl (lv_at hl 0 rfl) ?_
  refine lv_iload_n C0.1 C0.2.1 dL_padWeight_3 rfl (lv_at hl 1 rfl) ?_
  refine kx_i C1 hI (qx_V (As := [.int x1]) C0 C1 hI 0 (c_X9_padWeight l hl0 g (xb g r T ++ (outs g q1 q2 o d ++ Y)) r b H.size n M x1 hf) w_910 w_911 w_912 w_119 w_913 ⟨rfl, rfl⟩ hd_X9_padWeight ⟨Nat.le_of_ble_eq_true rfl, Nat.le_of_ble_eq_true rfl⟩ (kdlt0 (rfl : kdI 0 = 0)) (shI_0 (rfl : kdI 0 = 0) _) rfl rfl rfl hl.1 rfl (Nat.le_of_ble_eq_true rfl) dL_padWeight_4 ⟨Nat.le_of_ble_eq_true rfl, Nat.le_of_ble_eq_true rfl⟩) (fun k H locs ce q9 e1 hI g1 g2 g3 => ?_) (fun v H locs e1 hI => ?_)
  · rcases hk k e1 with e
    · subst e
      refine vx_catch C0.2.2.2.1 (tableOf []) ⟨0, 9, 12, 13⟩ (tableOf []) hTB (fun z hz => nomatch hz) (by decide) (by decide) (C0.2.2.2.2 _ w_749) (va_Nw.use rfl (C1.2.2.2.2.2.1 _ (List.mem_of_getElem? (i := 0) rfl))) g1 g2 g3 ?_
      refine lv_astore_n (lv' := [(3, .ref q9), (0, .ref (b 0)), (1, .int x1), (2, .ref q1)]) C0.1 C0.2.1 dL_padWeight_12 rfl hl (by decide) rfl (fun ls hl => ?_)
      refine lv_iconst (v := 1) C0.1 C0.2.1 dL_padWeight_13 (by decide) ?_
      exact e_h C0 rfl hI hr hlocks (by rw [cxl e1]; decide) (by rw [oul e1]) rfl dL_padWeight_14
  · refine lv_i2l C0.1 C0.2.1 dL_padWeight_7 rfl ?_
    refine o_last (W1 := xb g r T) 2 rfl C0 C1 hI dL_padWeight_8 (fun H locs eA C1 hI => ?_)
    refine lv_goto (tgt := 15) C0.1 C0.2.1 dL_padWeight_9 (by decide) ?_
    refine lv_iconst (v := 0) C0.1 C0.2.1 dL_padWeight_15 (by decide) ?_
    exact e_h C0 eA hI hr hlocks (cxr e1).symm (by rw [our (f := ciI) e1]) rfl dL_padWeight_16

theorem hd_L_addMotion : yL_addMotion.cls ≠ "java/lang/invoke/MethodHandle" ∧ yL_addMotion.cls ≠ "java/lang/invoke/VarHandle" ∧ (parseMethodDescriptor yL_addMotion.desc).map (fun d => d.parameters.length) = some 3 := ⟨by decide +kernel, by decide +kernel, by decide +kernel⟩
set_option maxHeartbeats 4000000 in
theorem h_addMotion (l : Launch) (hl0 : l.stackTraces = false) (g : GG) (Y : va_W) (r b : Nat → Nat) (sz n : Nat) (T M : Mem) (q1 q2 : Nat) (o : Nat → Int64) (d : Nat → UInt64) (x1 : Int32) {q0 : RX Int32} {M' : Mem} (hf : F_X9_addMotion n x1 M = some (q0, M')) (hk : ∀ k, q0 = .inl k → k = 1 ∨ k = 0) : Met l yL_addMotion (.codeWith yL_addMotion method_12_code 4 (some .int) [(0, 9, 12, 15), (0, 9, 15, 17)] :: LWg) (rmD 11 1 6) (va_Pc [.ref (b 0), .int x1, .ref q1] (PreP g (xb g r T ++ (outs g q1 q2 o d ++ Y)) 372 (shI g r b) b sz M)) (va_Qi (fun res (_ : Unit) => res = cx [1, 0] q0) (fun _ t => PoP g (xb g r T ++ (outs g q1 q2 (ou ciI o q0) d ++ Y)) 372 (shI g r b) b M' t) (AA (xb g r T ++ (outs g q1 q2 o d ++ Y)) b 372 sz)) 1 6 (AA (xb g r T ++ (outs g q1 q2 o d ++ Y)) b 372 sz) := by
  refine metH_go (by decide +kernel) rfl (Nat.le_of_ble_eq_true rfl) ?_
  intro p e s m below meth c ls H locs C0 C1 hr hlocks hTB hsz hl hI
  subst hsz
  have hl : lv_has ls 4 [(0, .ref (b 0)), (1, .int x1), (2, .ref q1)] := hl
  refine lv_aload_n C0.1 C0.2.1 dL_addMotion_0 rfl (lv_at hl 2 rfl) ?_
  refine lv_iconst (v := 0) C0.1 C0.2.1 dL_addMotion_1 (by decide) ?_
  refine lv_aload_n C0.1 C0.2.1 dL_addMotion_2 rfl (lv_at hl 0 rfl) ?_
  refine lv_iload_n C0.1 C0.2.1 dL_addMotion_3 rfl (lv_at hl 1 rfl) ?_
  refine kx_i C1 hI (qx_V (As := [.int x1]) C0 C1 hI 0 (c_X9_addMotion l hl0 g (xb g r T ++ (outs g q1 q2 o d ++ Y)) r b H.size n M x1 hf) w_922 w_923 w_924 w_119 w_925 ⟨rfl, rfl⟩ hd_X9_addMotion ⟨Nat.le_of_ble_eq_true rfl, Nat.le_of_ble_eq_true rfl⟩ (kdlt0 (rfl : kdI 0 = 0)) (shI_0 (rfl : kdI 0 = 0) _) rfl rfl rfl hl.1 rfl (Nat.le_of_ble_eq_true rfl) dL_addMotion_4 ⟨Nat.le_of_ble_eq_true rfl, Nat.le_of_ble_eq_true rfl⟩) (fun k H locs ce q9 e1 hI g1 g2 g3 => ?_) (fun v H locs e1 hI => ?_)
  · rcases hk k e1 with e | e
    · subst e
      refine vx_catch C0.2.2.2.1 (tableOf []) ⟨0, 9, 12, 15⟩ (tableOf [(0, 9, 15, 17)]) hTB (fun z hz => nomatch hz) (by decide) (by decide) (C0.2.2.2.2 _ w_770) (va_Nw.use rfl (C1.2.2.2.2.2.1 _ (List.mem_of_getElem? (i := 1) rfl))) g1 g2 g3 ?_
      refine lv_astore_n (lv' := [(3, .ref q9), (0, .ref (b 0)), (1, .int x1), (2, .ref q1)]) C0.1 C0.2.1 dL_addMotion_12 rfl hl (by decide) rfl (fun ls hl => ?_)
      refine lv_iconst (v := 1) C0.1 C0.2.1 dL_addMotion_13 (by decide) ?_
      exact e_h C0 rfl hI hr hlocks (by rw [cxl e1]; decide) (by rw [oul e1]) rfl dL_addMotion_14
    · subst e
      refine vx_catch C0.2.2.2.1 (tableOf [(0, 9, 12, 15)]) ⟨0, 9, 15, 17⟩ (tableOf []) hTB (List.forall_mem_cons.mpr ⟨Or.inr ⟨by decide, "java/lang/IllegalArgumentException", C0.2.2.2.2 _ w_770, C1.2.2.2.2.2.2.1 _ (List.mem_of_getElem? (i := 6) rfl)⟩, fun _ h => absurd h List.not_mem_nil⟩) (by decide) (by decide) (C0.2.2.2.2 _ w_771) (va_Nw.use rfl (C1.2.2.2.2.2.1 _ (List.mem_of_getElem? (i := 2) rfl))) g1 g2 g3 ?_
      refine lv_astore_n (lv' := [(3, .ref q9), (0, .ref (b 0)), (1, .int x1), (2, .ref q1)]) C0.1 C0.2.1 dL_addMotion_15 rfl hl (by decide) rfl (fun ls hl => ?_)
      refine lv_iconst (v := 2) C0.1 C0.2.1 dL_addMotion_16 (by decide) ?_
      exact e_h C0 rfl hI hr hlocks (by rw [cxl e1]; decide) (by rw [oul e1]) rfl dL_addMotion_17
  · refine lv_i2l C0.1 C0.2.1 dL_addMotion_7 rfl ?_
    refine o_last (W1 := xb g r T) 2 rfl C0 C1 hI dL_addMotion_8 (fun H locs eA C1 hI => ?_)
    refine lv_goto (tgt := 18) C0.1 C0.2.1 dL_addMotion_9 (by decide) ?_
    refine lv_iconst (v := 0) C0.1 C0.2.1 dL_addMotion_18 (by decide) ?_
    exact e_h C0 eA hI hr hlocks (cxr e1).symm (by rw [our (f := ciI) e1]) rfl dL_addMotion_19

theorem hd_L_isEntitled : yL_isEntitled.cls ≠ "java/lang/invoke/MethodHandle" ∧ yL_isEntitled.cls ≠ "java/lang/invoke/VarHandle" ∧ (parseMethodDescriptor yL_isEntitled.desc).map (fun d => d.parameters.length) = some 4 := ⟨by decide +kernel, by decide +kernel, by decide +kernel⟩
set_option maxHeartbeats 4000000 in
theorem h_isEntitled (l : Launch) (hl0 : l.stackTraces = false) (g : GG) (Y : va_W) (r b : Nat → Nat) (sz n : Nat) (T M : Mem) (q1 q2 : Nat) (o : Nat → Int64) (d : Nat → UInt64) (x1 : Int32) (x2 : Int32) {q0 : RX Int32} (hf : F_X9_isEntitled n x1 x2 M = some q0) (hk : ∀ k, q0 = .inl k → k = 2) : Met l yL_isEntitled (.codeWith yL_isEntitled method_13_code 5 (some .int) [(0, 17, 20, 13)] :: LWg) (rmD 11 1 6) (va_Pc [.ref (b 0), .int x1, .int x2, .ref q1] (PreP g (xb g r T ++ (outs g q1 q2 o d ++ Y)) 372 (shI g r b) b sz M)) (va_Qi (fun res (_ : Unit) => res = cx [2] q0) (fun _ t => PoP g (xb g r T ++ (outs g q1 q2 (ou ciZ o q0) d ++ Y)) 372 (shI g r b) b M t) (AA (xb g r T ++ (outs g q1 q2 o d ++ Y)) b 372 sz)) 1 6 (AA (xb g r T ++ (outs g q1 q2 o d ++ Y)) b 372 sz) := by
  refine metH_go (by decide +kernel) rfl (Nat.le_of_ble_eq_true rfl) ?_
  intro p e s m below meth c ls H locs C0 C1 hr hlocks hTB hsz hl hI
  subst hsz
  have hl : lv_has ls 5 [(0, .ref (b 0)), (1, .int x1), (2, .int x2), (3, .ref q1)] := hl
  refine lv_aload_n C0.1 C0.2.1 dL_isEntitled_0 rfl (lv_at hl 3 rfl) ?_
  refine lv_iconst (v := 0) C0.1 C0.2.1 dL_isEntitled_1 (by decide) ?_
  refine lv_aload_n C0.1 C0.2.1 dL_isEntitled_2 rfl (lv_at hl 0 rfl) ?_
  refine lv_iload_n C0.1 C0.2.1 dL_isEntitled_3 rfl (lv_at hl 1 rfl) ?_
  refine lv_iload_n C0.1 C0.2.1 dL_isEntitled_4 rfl (lv_at hl 2 rfl) ?_
  refine kx_i C1 hI (qx_V (As := [.int x1, .int x2]) C0 C1 hI 0 (c_X9_isEntitled l hl0 g (xb g r T ++ (outs g q1 q2 o d ++ Y)) r b H.size n M x1 x2 hf) w_939 w_940 w_941 w_119 w_942 ⟨rfl, rfl⟩ hd_X9_isEntitled ⟨Nat.le_of_ble_eq_true rfl, Nat.le_of_ble_eq_true rfl⟩ (kdlt0 (rfl : kdI 0 = 0)) (shI_0 (rfl : kdI 0 = 0) _) rfl rfl rfl hl.1 rfl (Nat.le_of_ble_eq_true rfl) dL_isEntitled_5 ⟨Nat.le_of_ble_eq_true rfl, Nat.le_of_ble_eq_true rfl⟩) (fun k H locs ce q9 e1 hI g1 g2 g3 => ?_) (fun v H locs e1 hI => ?_)
  · rcases hk k e1 with e
    · subst e
      refine vx_catch C0.2.2.2.1 (tableOf []) ⟨0, 17, 20, 13⟩ (tableOf []) hTB (fun z hz => nomatch hz) (by decide) (by decide) (C0.2.2.2.2 _ w_749) (va_Nw.use rfl (C1.2.2.2.2.2.1 _ (List.mem_of_getElem? (i := 0) rfl))) g1 g2 g3 ?_
      refine lv_astore (lv' := [(4, .ref q9), (0, .ref (b 0)), (1, .int x1), (2, .int x2), (3, .ref q1)]) C0.1 C0.2.1 dL_isEntitled_20 hl (by decide) rfl (fun ls hl => ?_)
      refine lv_iconst (v := 1) C0.1 C0.2.1 dL_isEntitled_22 (by decide) ?_
      exact e_h C0 rfl hI hr hlocks (by rw [cxl e1]; decide) (by rw [oul e1]) rfl dL_isEntitled_23
  · refine lv_if_eq (tgt := 15) C0.1 C0.2.1 dL_isEntitled_8 (by decide) (fun cz => ?_) (fun cz => ?_)
    · have e5 : ciZ v = 0 := if_pos cz
      refine lv_lconst (v := 0) C0.1 C0.2.1 dL_isEntitled_15 (by decide) ?_
      refine o_last (W1 := xb g r T) 2 rfl C0 C1 hI dL_isEntitled_16 (fun H locs eA C1 hI => ?_)
      refine lv_goto (tgt := 24) C0.1 C0.2.1 dL_isEntitled_17 (by decide) ?_
      refine lv_iconst (v := 0) C0.1 C0.2.1 dL_isEntitled_24 (by decide) ?_
      exact e_h C0 eA hI hr hlocks (cxr e1).symm (by rw [our (f := ciZ) e1, e5]) rfl dL_isEntitled_25
    · have e5 : ciZ v = 1 := if_neg cz
      refine lv_lconst (v := 1) C0.1 C0.2.1 dL_isEntitled_11 (by decide) ?_
      refine lv_goto (tgt := 16) C0.1 C0.2.1 dL_isEntitled_12 (by decide) ?_
      refine o_last (W1 := xb g r T) 2 rfl C0 C1 hI dL_isEntitled_16 (fun H locs eA C1 hI => ?_)
      refine lv_goto (tgt := 24) C0.1 C0.2.1 dL_isEntitled_17 (by decide) ?_
      refine lv_iconst (v := 0) C0.1 C0.2.1 dL_isEntitled_24 (by decide) ?_
      exact e_h C0 eA hI hr hlocks (cxr e1).symm (by rw [our (f := ciZ) e1, e5]) rfl dL_isEntitled_25

theorem hd_L_signUp : yL_signUp.cls ≠ "java/lang/invoke/MethodHandle" ∧ yL_signUp.cls ≠ "java/lang/invoke/VarHandle" ∧ (parseMethodDescriptor yL_signUp.desc).map (fun d => d.parameters.length) = some 4 := ⟨by decide +kernel, by decide +kernel, by decide +kernel⟩
set_option maxHeartbeats 4000000 in
theorem h_signUp (l : Launch) (hl0 : l.stackTraces = false) (g : GG) (Y : va_W) (r b : Nat → Nat) (sz n : Nat) (T M : Mem) (q1 q2 : Nat) (o : Nat → Int64) (d : Nat → UInt64) (x1 : Int32) (x2 : Int32) {q0 : RX Int32} {M' : Mem} (hf : F_X9_signUp n x1 x2 M = some (q0, M')) (hk : ∀ k, q0 = .inl k → k = 2 ∨ k = 1 ∨ k = 0 ∨ k = 4) : Met l yL_signUp (.codeWith yL_signUp method_14_code 5 (some .int) [(0, 10, 13, 13), (0, 10, 17, 15), (0, 10, 21, 17), (0, 10, 25, 56)] :: LWg) (rmD 11 1 6) (va_Pc [.ref (b 0), .int x1, .int x2, .ref q1] (PreP g (xb g r T ++ (outs g q1 q2 o d ++ Y)) 372 (shI g r b) b sz M)) (va_Qi (fun res (_ : Unit) => res = cx [2, 1, 0, 4] q0) (fun _ t => PoP g (xb g r T ++ (outs g q1 q2 (ou ciI o q0) d ++ Y)) 372 (shI g r b) b M' t) (AA (xb g r T ++ (outs g q1 q2 o d ++ Y)) b 372 sz)) 1 6 (AA (xb g r T ++ (outs g q1 q2 o d ++ Y)) b 372 sz) := by
  refine metH_go (by decide +kernel) rfl (Nat.le_of_ble_eq_true rfl) ?_
  intro p e s m below meth c ls H locs C0 C1 hr hlocks hTB hsz hl hI
  subst hsz
  have hl : lv_has ls 5 [(0, .ref (b 0)), (1, .int x1), (2, .int x2), (3, .ref q1)] := hl
  refine lv_aload_n C0.1 C0.2.1 dL_signUp_0 rfl (lv_at hl 3 rfl) ?_
  refine lv_iconst (v := 0) C0.1 C0.2.1 dL_signUp_1 (by decide) ?_
  refine lv_aload_n C0.1 C0.2.1 dL_signUp_2 rfl (lv_at hl 0 rfl) ?_
  refine lv_iload_n C0.1 C0.2.1 dL_signUp_3 rfl (lv_at hl 1 rfl) ?_
  refine lv_iload_n C0.1 C0.2.1 dL_signUp_4 rfl (lv_at hl 2 rfl) ?_
  refine kx_i C1 hI (qx_V (As := [.int x1, .int x2]) C0 C1 hI 0 (c_X9_signUp l hl0 g (xb g r T ++ (outs g q1 q2 o d ++ Y)) r b H.size n M x1 x2 hf) w_955 w_956 w_957 w_119 w_958 ⟨rfl, rfl⟩ hd_X9_signUp ⟨Nat.le_of_ble_eq_true rfl, Nat.le_of_ble_eq_true rfl⟩ (kdlt0 (rfl : kdI 0 = 0)) (shI_0 (rfl : kdI 0 = 0) _) rfl rfl rfl hl.1 rfl (Nat.le_of_ble_eq_true rfl) dL_signUp_5 ⟨Nat.le_of_ble_eq_true rfl, Nat.le_of_ble_eq_true rfl⟩) (fun k H locs ce q9 e1 hI g1 g2 g3 => ?_) (fun v H locs e1 hI => ?_)
  · rcases hk k e1 with e | e | e | e
    · subst e
      refine vx_catch C0.2.2.2.1 (tableOf []) ⟨0, 10, 13, 13⟩ (tableOf [(0, 10, 17, 15), (0, 10, 21, 17), (0, 10, 25, 56)]) hTB (fun z hz => nomatch hz) (by decide) (by decide) (C0.2.2.2.2 _ w_749) (va_Nw.use rfl (C1.2.2.2.2.2.1 _ (List.mem_of_getElem? (i := 0) rfl))) g1 g2 g3 ?_
      refine lv_astore (lv' := [(4, .ref q9), (0, .ref (b 0)), (1, .int x1), (2, .int x2), (3, .ref q1)]) C0.1 C0.2.1 dL_signUp_13 hl (by decide) rfl (fun ls hl => ?_)
      refine lv_iconst (v := 1) C0.1 C0.2.1 dL_signUp_15 (by decide) ?_
      exact e_h C0 rfl hI hr hlocks (by rw [cxl e1]; decide) (by rw [oul e1]) rfl dL_signUp_16
    · subst e
      refine vx_catch C0.2.2.2.1 (tableOf [(0, 10, 13, 13)]) ⟨0, 10, 17, 15⟩ (tableOf [(0, 10, 21, 17), (0, 10, 25, 56)]) hTB (List.forall_mem_cons.mpr ⟨Or.inr ⟨by decide, "java/lang/IndexOutOfBoundsException", C0.2.2.2.2 _ w_749, C1.2.2.2.2.2.2.1 _ (List.mem_of_getElem? (i := 0) rfl)⟩, fun _ h => absurd h List.not_mem_nil⟩) (by decide) (by decide) (C0.2.2.2.2 _ w_770) (va_Nw.use rfl (C1.2.2.2.2.2.1 _ (List.mem_of_getElem? (i := 1) rfl))) g1 g2 g3 ?_
      refine lv_astore (lv' := [(4, .ref q9), (0, .ref (b 0)), (1, .int x1), (2, .int x2), (3, .ref q1)]) C0.1 C0.2.1 dL_signUp_17 hl (by decide) rfl (fun ls hl => ?_)
      refine lv_iconst (v := 2) C0.1 C0.2.1 dL_signUp_19 (by decide) ?_
      exact e_h C0 rfl hI hr hlocks (by rw [cxl e1]; decide) (by rw [oul e1]) rfl dL_signUp_20
    · subst e
      refine vx_catch C0.2.2.2.1 (tableOf [(0, 10, 13, 13), (0, 10, 17, 15)]) ⟨0, 10, 21, 17⟩ (tableOf [(0, 10, 25, 56)]) hTB (List.forall_mem_cons.mpr ⟨Or.inr ⟨by decide, "java/lang/IndexOutOfBoundsException", C0.2.2.2.2 _ w_749, C1.2.2.2.2.2.2.1 _ (List.mem_of_getElem? (i := 1) rfl)⟩, List.forall_mem_cons.mpr ⟨Or.inr ⟨by decide, "java/lang/IllegalArgumentException", C0.2.2.2.2 _ w_770, C1.2.2.2.2.2.2.1 _ (List.mem_of_getElem? (i := 6) rfl)⟩, fun _ h => absurd h List.not_mem_nil⟩⟩) (by decide) (by decide) (C0.2.2.2.2 _ w_771) (va_Nw.use rfl (C1.2.2.2.2.2.1 _ (List.mem_of_getElem? (i := 2) rfl))) g1 g2 g3 ?_
      refine lv_astore (lv' := [(4, .ref q9), (0, .ref (b 0)), (1, .int x1), (2, .int x2), (3, .ref q1)]) C0.1 C0.2.1 dL_signUp_21 hl (by decide) rfl (fun ls hl => ?_)
      refine lv_iconst (v := 3) C0.1 C0.2.1 dL_signUp_23 (by decide) ?_
      exact e_h C0 rfl hI hr hlocks (by rw [cxl e1]; decide) (by rw [oul e1]) rfl dL_signUp_24
    · subst e
      refine vx_catch C0.2.2.2.1 (tableOf [(0, 10, 13, 13), (0, 10, 17, 15), (0, 10, 21, 17)]) ⟨0, 10, 25, 56⟩ (tableOf []) hTB (List.forall_mem_cons.mpr ⟨Or.inr ⟨by decide, "java/lang/IndexOutOfBoundsException", C0.2.2.2.2 _ w_749, C1.2.2.2.2.2.2.1 _ (List.mem_of_getElem? (i := 2) rfl)⟩, List.forall_mem_cons.mpr ⟨Or.inr ⟨by decide, "java/lang/IllegalArgumentException", C0.2.2.2.2 _ w_770, C1.2.2.2.2.2.2.1 _ (List.mem_of_getElem? (i := 7) rfl)⟩, List.forall_mem_cons.mpr ⟨Or.inr ⟨by decide, "java/lang/IllegalStateException", C0.2.2.2.2 _ w_771, C1.2.2.2.2.2.2.1 _ (List.mem_of_getElem? (i := 12) rfl)⟩, fun _ h => absurd h List.not_mem_nil⟩⟩⟩) (by decide) (by decide) (C0.2.2.2.2 _ w_954) (va_Nw.use rfl (C1.2.2.2.2.2.1 _ (List.mem_of_getElem? (i := 3) rfl))) g1 g2 g3 ?_
      refine lv_astore (lv' := [(4, .ref q9), (0, .ref (b 0)), (1, .int x1), (2, .int x2), (3, .ref q1)]) C0.1 C0.2.1 dL_signUp_25 hl (by decide) rfl (fun ls hl => ?_)
      refine lv_iconst (v := 4) C0.1 C0.2.1 dL_signUp_27 (by decide) ?_
      exact e_h C0 rfl hI hr hlocks (by rw [cxl e1]; decide) (by rw [oul e1]) rfl dL_signUp_28
  · refine lv_i2l C0.1 C0.2.1 dL_signUp_8 rfl ?_
    refine o_last (W1 := xb g r T) 2 rfl C0 C1 hI dL_signUp_9 (fun H locs eA C1 hI => ?_)
    refine lv_goto (tgt := 29) C0.1 C0.2.1 dL_signUp_10 (by decide) ?_
    refine lv_iconst (v := 0) C0.1 C0.2.1 dL_signUp_29 (by decide) ?_
    exact e_h C0 eA hI hr hlocks (cxr e1).symm (by rw [our (f := ciI) e1]) rfl dL_signUp_30

theorem hd_L_strike : yL_strike.cls ≠ "java/lang/invoke/MethodHandle" ∧ yL_strike.cls ≠ "java/lang/invoke/VarHandle" ∧ (parseMethodDescriptor yL_strike.desc).map (fun d => d.parameters.length) = some 4 := ⟨by decide +kernel, by decide +kernel, by decide +kernel⟩
set_option maxHeartbeats 4000000 in
theorem h_strike (l : Launch) (hl0 : l.stackTraces = false) (g : GG) (Y : va_W) (r b : Nat → Nat) (sz n : Nat) (T M : Mem) (q1 q2 : Nat) (o : Nat → Int64) (d : Nat → UInt64) (x1 : Int32) (x2 : Int32) {q0 : RX Int32} {M' : Mem} (hf : F_X9_strike n x1 x2 M = some (q0, M')) (hk : ∀ k, q0 = .inl k → k = 2 ∨ k = 5) : Met l yL_strike (.codeWith yL_strike method_15_code 5 (some .int) [(0, 10, 13, 13), (0, 10, 17, 38)] :: LWg) (rmD 11 1 6) (va_Pc [.ref (b 0), .int x1, .int x2, .ref q1] (PreP g (xb g r T ++ (outs g q1 q2 o d ++ Y)) 372 (shI g r b) b sz M)) (va_Qi (fun res (_ : Unit) => res = cx [2, 5] q0) (fun _ t => PoP g (xb g r T ++ (outs g q1 q2 (ou ciI o q0) d ++ Y)) 372 (shI g r b) b M' t) (AA (xb g r T ++ (outs g q1 q2 o d ++ Y)) b 372 sz)) 1 6 (AA (xb g r T ++ (outs g q1 q2 o d ++ Y)) b 372 sz) := by
  refine metH_go (by decide +kernel) rfl (Nat.le_of_ble_eq_true rfl) ?_
  intro p e s m below meth c ls H locs C0 C1 hr hlocks hTB hsz hl hI
  subst hsz
  have hl : lv_has ls 5 [(0, .ref (b 0)), (1, .int x1), (2, .int x2), (3, .ref q1)] := hl
  refine lv_aload_n C0.1 C0.2.1 dL_strike_0 rfl (lv_at hl 3 rfl) ?_
  refine lv_iconst (v := 0) C0.1 C0.2.1 dL_strike_1 (by decide) ?_
  refine lv_aload_n C0.1 C0.2.1 dL_strike_2 rfl (lv_at hl 0 rfl) ?_
  refine lv_iload_n C0.1 C0.2.1 dL_strike_3 rfl (lv_at hl 1 rfl) ?_
  refine lv_iload_n C0.1 C0.2.1 dL_strike_4 rfl (lv_at hl 2 rfl) ?_
  refine kx_i C1 hI (qx_V (As := [.int x1, .int x2]) C0 C1 hI 0 (c_X9_strike l hl0 g (xb g r T ++ (outs g q1 q2 o d ++ Y)) r b H.size n M x1 x2 hf) w_992 w_993 w_994 w_119 w_995 ⟨rfl, rfl⟩ hd_X9_strike ⟨Nat.le_of_ble_eq_true rfl, Nat.le_of_ble_eq_true rfl⟩ (kdlt0 (rfl : kdI 0 = 0)) (shI_0 (rfl : kdI 0 = 0) _) rfl rfl rfl hl.1 rfl (Nat.le_of_ble_eq_true rfl) dL_strike_5 ⟨Nat.le_of_ble_eq_true rfl, Nat.le_of_ble_eq_true rfl⟩) (fun k H locs ce q9 e1 hI g1 g2 g3 => ?_) (fun v H locs e1 hI => ?_)
  · rcases hk k e1 with e | e
    · subst e
      refine vx_catch C0.2.2.2.1 (tableOf []) ⟨0, 10, 13, 13⟩ (tableOf [(0, 10, 17, 38)]) hTB (fun z hz => nomatch hz) (by decide) (by decide) (C0.2.2.2.2 _ w_749) (va_Nw.use rfl (C1.2.2.2.2.2.1 _ (List.mem_of_getElem? (i := 0) rfl))) g1 g2 g3 ?_
      refine lv_astore (lv' := [(4, .ref q9), (0, .ref (b 0)), (1, .int x1), (2, .int x2), (3, .ref q1)]) C0.1 C0.2.1 dL_strike_13 hl (by decide) rfl (fun ls hl => ?_)
      refine lv_iconst (v := 1) C0.1 C0.2.1 dL_strike_15 (by decide) ?_
      exact e_h C0 rfl hI hr hlocks (by rw [cxl e1]; decide) (by rw [oul e1]) rfl dL_strike_16
    · subst e
      refine vx_catch C0.2.2.2.1 (tableOf [(0, 10, 13, 13)]) ⟨0, 10, 17, 38⟩ (tableOf []) hTB (List.forall_mem_cons.mpr ⟨Or.inr ⟨by decide, "java/lang/IndexOutOfBoundsException", C0.2.2.2.2 _ w_749, C1.2.2.2.2.2.2.1 _ (List.mem_of_getElem? (i := 3) rfl)⟩, fun _ h => absurd h List.not_mem_nil⟩) (by decide) (by decide) (C0.2.2.2.2 _ w_888) (va_Nw.use rfl (C1.2.2.2.2.2.1 _ (List.mem_of_getElem? (i := 4) rfl))) g1 g2 g3 ?_
      refine lv_astore (lv' := [(4, .ref q9), (0, .ref (b 0)), (1, .int x1), (2, .int x2), (3, .ref q1)]) C0.1 C0.2.1 dL_strike_17 hl (by decide) rfl (fun ls hl => ?_)
      refine lv_iconst (v := 2) C0.1 C0.2.1 dL_strike_19 (by decide) ?_
      exact e_h C0 rfl hI hr hlocks (by rw [cxl e1]; decide) (by rw [oul e1]) rfl dL_strike_20
  · refine lv_i2l C0.1 C0.2.1 dL_strike_8 rfl ?_
    refine o_last (W1 := xb g r T) 2 rfl C0 C1 hI dL_strike_9 (fun H locs eA C1 hI => ?_)
    refine lv_goto (tgt := 21) C0.1 C0.2.1 dL_strike_10 (by decide) ?_
    refine lv_iconst (v := 0) C0.1 C0.2.1 dL_strike_21 (by decide) ?_
    exact e_h C0 eA hI hr hlocks (cxr e1).symm (by rw [our (f := ciI) e1]) rfl dL_strike_22

theorem hd_L_callNext : yL_callNext.cls ≠ "java/lang/invoke/MethodHandle" ∧ yL_callNext.cls ≠ "java/lang/invoke/VarHandle" ∧ (parseMethodDescriptor yL_callNext.desc).map (fun d => d.parameters.length) = some 3 := ⟨by decide +kernel, by decide +kernel, by decide +kernel⟩
set_option maxHeartbeats 4000000 in
theorem h_callNext (l : Launch) (hl0 : l.stackTraces = false) (g : GG) (Y : va_W) (r b : Nat → Nat) (sz n : Nat) (T M : Mem) (q1 q2 : Nat) (o : Nat → Int64) (d : Nat → UInt64) (x1 : Int32) {q0 : RX Int32} {M' : Mem} (hf : F_X9_callNext n x1 M = some (q0, M')) (hk : ∀ k, q0 = .inl k → k = 2 ∨ k = 5) : Met l yL_callNext (.codeWith yL_callNext method_16_code 4 (some .int) [(0, 16, 19, 13), (0, 16, 22, 38)] :: LWg) (rmD 11 1 6) (va_Pc [.ref (b 0), .int x1, .ref q1] (PreP g (xb g r T ++ (outs g q1 q2 o d ++ Y)) 372 (shI g r b) b sz M)) (va_Qi (fun res (_ : Unit) => res = cx [2, 5] q0) (fun _ t => PoP g (xb g r T ++ (outs g q1 q2 (ou ciZ o q0) d ++ Y)) 372 (shI g r b) b M' t) (AA (xb g r T ++ (outs g q1 q2 o d ++ Y)) b 372 sz)) 1 6 (AA (xb g r T ++ (outs g q1 q2 o d ++ Y)) b 372 sz) := by
  refine metH_go (by decide +kernel) rfl (Nat.le_of_ble_eq_true rfl) ?_
  intro p e s m below meth c ls H locs C0 C1 hr hlocks hTB hsz hl hI
  subst hsz
  have hl : lv_has ls 4 [(0, .ref (b 0)), (1, .int x1), (2, .ref q1)] := hl
  refine lv_aload_n C0.1 C0.2.1 dL_callNext_0 rfl (lv_at hl 2 rfl) ?_
  refine lv_iconst (v := 0) C0.1 C0.2.1 dL_callNext_1 (by decide) ?_
  refine lv_aload_n C0.1 C0.2.1 dL_callNext_2 rfl (lv_at hl 0 rfl) ?_
  refine lv_iload_n C0.1 C0.2.1 dL_callNext_3 rfl (lv_at hl 1 rfl) ?_
  refine kx_i C1 hI (qx_V (As := [.int x1]) C0 C1 hI 0 (c_X9_callNext l hl0 g (xb g r T ++ (outs g q1 q2 o d ++ Y)) r b H.size n M x1 hf) w_1013 w_1014 w_1015 w_119 w_1016 ⟨rfl, rfl⟩ hd_X9_callNext ⟨Nat.le_of_ble_eq_true rfl, Nat.le_of_ble_eq_true rfl⟩ (kdlt0 (rfl : kdI 0 = 0)) (shI_0 (rfl : kdI 0 = 0) _) rfl rfl rfl hl.1 rfl (Nat.le_of_ble_eq_true rfl) dL_callNext_4 ⟨Nat.le_of_ble_eq_true rfl, Nat.le_of_ble_eq_true rfl⟩) (fun k H locs ce q9 e1 hI g1 g2 g3 => ?_) (fun v H locs e1 hI => ?_)
  · rcases hk k e1 with e | e
    · subst e
      refine vx_catch C0.2.2.2.1 (tableOf []) ⟨0, 16, 19, 13⟩ (tableOf [(0, 16, 22, 38)]) hTB (fun z hz => nomatch hz) (by decide) (by decide) (C0.2.2.2.2 _ w_749) (va_Nw.use rfl (C1.2.2.2.2.2.1 _ (List.mem_of_getElem? (i := 0) rfl))) g1 g2 g3 ?_
      refine lv_astore_n (lv' := [(3, .ref q9), (0, .ref (b 0)), (1, .int x1), (2, .ref q1)]) C0.1 C0.2.1 dL_callNext_19 rfl hl (by decide) rfl (fun ls hl => ?_)
      refine lv_iconst (v := 1) C0.1 C0.2.1 dL_callNext_20 (by decide) ?_
      exact e_h C0 rfl hI hr hlocks (by rw [cxl e1]; decide) (by rw [oul e1]) rfl dL_callNext_21
    · subst e
      refine vx_catch C0.2.2.2.1 (tableOf [(0, 16, 19, 13)]) ⟨0, 16, 22, 38⟩ (tableOf []) hTB (List.forall_mem_cons.mpr ⟨Or.inr ⟨by decide, "java/lang/IndexOutOfBoundsException", C0.2.2.2.2 _ w_749, C1.2.2.2.2.2.2.1 _ (List.mem_of_getElem? (i := 3) rfl)⟩, fun _ h => absurd h List.not_mem_nil⟩) (by decide) (by decide) (C0.2.2.2.2 _ w_888) (va_Nw.use rfl (C1.2.2.2.2.2.1 _ (List.mem_of_getElem? (i := 4) rfl))) g1 g2 g3 ?_
      refine lv_astore_n (lv' := [(3, .ref q9), (0, .ref (b 0)), (1, .int x1), (2, .ref q1)]) C0.1 C0.2.1 dL_callNext_22 rfl hl (by decide) rfl (fun ls hl => ?_)
      refine lv_iconst (v := 2) C0.1 C0.2.1 dL_callNext_23 (by decide) ?_
      exact e_h C0 rfl hI hr hlocks (by rw [cxl e1]; decide) (by rw [oul e1]) rfl dL_callNext_24
  · refine lv_if_eq (tgt := 14) C0.1 C0.2.1 dL_callNext_7 (by decide) (fun cz => ?_) (fun cz => ?_)
    · have e5 : ciZ v = 0 := if_pos cz
      refine lv_lconst (v := 0) C0.1 C0.2.1 dL_callNext_14 (by decide) ?_
      refine o_last (W1 := xb g r T) 2 rfl C0 C1 hI dL_callNext_15 (fun H locs eA C1 hI => ?_)
      refine lv_goto (tgt := 25) C0.1 C0.2.1 dL_callNext_16 (by decide) ?_
      refine lv_iconst (v := 0) C0.1 C0.2.1 dL_callNext_25 (by decide) ?_
      exact e_h C0 eA hI hr hlocks (cxr e1).symm (by rw [our (f := ciZ) e1, e5]) rfl dL_callNext_26
    · have e5 : ciZ v = 1 := if_neg cz
      refine lv_lconst (v := 1) C0.1 C0.2.1 dL_callNext_10 (by decide) ?_
      refine lv_goto (tgt := 15) C0.1 C0.2.1 dL_callNext_11 (by decide) ?_
      refine o_last (W1 := xb g r T) 2 rfl C0 C1 hI dL_callNext_15 (fun H locs eA C1 hI => ?_)
      refine lv_goto (tgt := 25) C0.1 C0.2.1 dL_callNext_16 (by decide) ?_
      refine lv_iconst (v := 0) C0.1 C0.2.1 dL_callNext_25 (by decide) ?_
      exact e_h C0 eA hI hr hlocks (cxr e1).symm (by rw [our (f := ciZ) e1, e5]) rfl dL_callNext_26

theorem hd_L_listLength : yL_listLength.cls ≠ "java/lang/invoke/MethodHandle" ∧ yL_listLength.cls ≠ "java/lang/invoke/VarHandle" ∧ (parseMethodDescriptor yL_listLength.desc).map (fun d => d.parameters.length) = some 3 := ⟨by decide +kernel, by decide +kernel, by decide +kernel⟩
set_option maxHeartbeats 4000000 in
theorem h_listLength (l : Launch) (hl0 : l.stackTraces = false) (g : GG) (Y : va_W) (r b : Nat → Nat) (sz n : Nat) (T M : Mem) (q1 q2 : Nat) (o : Nat → Int64) (d : Nat → UInt64) (x1 : Int32) {q0 : RX Int32} (hf : F_X9_listLength n x1 M = some q0) (hk : ∀ k, q0 = .inl k → k = 2) : Met l yL_listLength (.codeWith yL_listLength method_17_code 4 (some .int) [(0, 9, 12, 13)] :: LWg) (rmD 12 1 6) (va_Pc [.ref (b 0), .int x1, .ref q1] (PreP g (xb g r T ++ (outs g q1 q2 o d ++ Y)) 372 (shI g r b) b sz M)) (va_Qi (fun res (_ : Unit) => res = cx [2] q0) (fun _ t => PoP g (xb g r T ++ (outs g q1 q2 (ou ciI o q0) d ++ Y)) 372 (shI g r b) b M t) (AA (xb g r T ++ (outs g q1 q2 o d ++ Y)) b 372 sz)) 1 6 (AA (xb g r T ++ (outs g q1 q2 o d ++ Y)) b 372 sz) := by
  refine metH_go (by decide +kernel) rfl (Nat.le_of_ble_eq_true rfl) ?_
  intro p e s m below meth c ls H locs C0 C1 hr hlocks hTB hsz hl hI
  subst hsz
  have hl : lv_has ls 4 [(0, .ref (b 0)), (1, .int x1), (2, .ref q1)] := hl
  refine lv_aload_n C0.1 C0.2.1 dL_listLength_0 rfl (lv_at hl 2 rfl) ?_
  refine lv_iconst (v := 0) C0.1 C0.2.1 dL_listLength_1 (by decide) ?_
  refine lv_aload_n C0.1 C0.2.1 dL_listLength_2 rfl (lv_at hl 0 rfl) ?_
  refine lv_iload_n C0.1 C0.2.1 dL_listLength_3 rfl (lv_at hl 1 rfl) ?_
  refine kx_i C1 hI (qx_V (As := [.int x1]) C0 C1 hI 0 (c_X9_listLength l hl0 g (xb g r T ++ (outs g q1 q2 o d ++ Y)) r b H.size n M x1 hf) w_1025 w_478 w_479 w_119 w_480 ⟨rfl, rfl⟩ hd_X9_listLength ⟨Nat.le_of_ble_eq_true rfl, Nat.le_of_ble_eq_true rfl⟩ (kdlt0 (rfl : kdI 0 = 0)) (shI_0 (rfl : kdI 0 = 0) _) rfl rfl rfl hl.1 rfl (Nat.le_of_ble_eq_true rfl) dL_listLength_4 ⟨Nat.le_of_ble_eq_true rfl, Nat.le_of_ble_eq_true rfl⟩) (fun k H locs ce q9 e1 hI g1 g2 g3 => ?_) (fun v H locs e1 hI => ?_)
  · rcases hk k e1 with e
    · subst e
      refine vx_catch C0.2.2.2.1 (tableOf []) ⟨0, 9, 12, 13⟩ (tableOf []) hTB (fun z hz => nomatch hz) (by decide) (by decide) (C0.2.2.2.2 _ w_749) (va_Nw.use rfl (C1.2.2.2.2.2.1 _ (List.mem_of_getElem? (i := 0) rfl))) g1 g2 g3 ?_
      refine lv_astore_n (lv' := [(3, .ref q9), (0, .ref (b 0)), (1, .int x1), (2, .ref q1)]) C0.1 C0.2.1 dL_listLength_12 rfl hl (by decide) rfl (fun ls hl => ?_)
      refine lv_iconst (v := 1) C0.1 C0.2.1 dL_listLength_13 (by decide) ?_
      exact e_h C0 rfl hI hr hlocks (by rw [cxl e1]; decide) (by rw [oul e1]) rfl dL_listLength_14
  · refine lv_i2l C0.1 C0.2.1 dL_listLength_7 rfl ?_
    refine o_last (W1 := xb g r T) 2 rfl C0 C1 hI dL_listLength_8 (fun H locs eA C1 hI => ?_)
    refine lv_goto (tgt := 15) C0.1 C0.2.1 dL_listLength_9 (by decide) ?_
    refine lv_iconst (v := 0) C0.1 C0.2.1 dL_listLength_15 (by decide) ?_
    exact e_h C0 eA hI hr hlocks (cxr e1).symm (by rw [our (f := ciI) e1]) rfl dL_listLength_16

theorem hd_L_nextFrog : yL_nextFrog.cls ≠ "java/lang/invoke/MethodHandle" ∧ yL_nextFrog.cls ≠ "java/lang/invoke/VarHandle" ∧ (parseMethodDescriptor yL_nextFrog.desc).map (fun d => d.parameters.length) = some 3 := ⟨by decide +kernel, by decide +kernel, by decide +kernel⟩
set_option maxHeartbeats 4000000 in
theorem h_nextFrog (l : Launch) (hl0 : l.stackTraces = false) (g : GG) (Y : va_W) (r b : Nat → Nat) (sz n : Nat) (T M : Mem) (q1 q2 : Nat) (o : Nat → Int64) (d : Nat → UInt64) (x1 : Int32) {q0 : RX Int32} {M' : Mem} (hf : F_X9_nextFrog n x1 M = some (q0, M')) (hk : ∀ k, q0 = .inl k → k = 2 ∨ k = 5) : Met l yL_nextFrog (.codeWith yL_nextFrog method_18_code 4 (some .int) [(0, 9, 12, 13), (0, 9, 15, 38)] :: LWg) (rmD 11 1 6) (va_Pc [.ref (b 0), .int x1, .ref q1] (PreP g (xb g r T ++ (outs g q1 q2 o d ++ Y)) 372 (shI g r b) b sz M)) (va_Qi (fun res (_ : Unit) => res = cx [2, 5] q0) (fun _ t => PoP g (xb g r T ++ (outs g q1 q2 (ou ciI o q0) d ++ Y)) 372 (shI g r b) b M' t) (AA (xb g r T ++ (outs g q1 q2 o d ++ Y)) b 372 sz)) 1 6 (AA (xb g r T ++ (outs g q1 q2 o d ++ Y)) b 372 sz) := by
  refine metH_go (by decide +kernel) rfl (Nat.le_of_ble_eq_true rfl) ?_
  intro p e s m below meth c ls H locs C0 C1 hr hlocks hTB hsz hl hI
  subst hsz
  have hl : lv_has ls 4 [(0, .ref (b 0)), (1, .int x1), (2, .ref q1)] := hl
  refine lv_aload_n C0.1 C0.2.1 dL_nextFrog_0 rfl (lv_at hl 2 rfl) ?_
  refine lv_iconst (v := 0) C0.1 C0.2.1 dL_nextFrog_1 (by decide) ?_
  refine lv_aload_n C0.1 C0.2.1 dL_nextFrog_2 rfl (lv_at hl 0 rfl) ?_
  refine lv_iload_n C0.1 C0.2.1 dL_nextFrog_3 rfl (lv_at hl 1 rfl) ?_
  refine kx_i C1 hI (qx_V (As := [.int x1]) C0 C1 hI 0 (c_X9_nextFrog l hl0 g (xb g r T ++ (outs g q1 q2 o d ++ Y)) r b H.size n M x1 hf) w_1029 w_660 w_661 w_119 w_662 ⟨rfl, rfl⟩ hd_X9_nextFrog ⟨Nat.le_of_ble_eq_true rfl, Nat.le_of_ble_eq_true rfl⟩ (kdlt0 (rfl : kdI 0 = 0)) (shI_0 (rfl : kdI 0 = 0) _) rfl rfl rfl hl.1 rfl (Nat.le_of_ble_eq_true rfl) dL_nextFrog_4 ⟨Nat.le_of_ble_eq_true rfl, Nat.le_of_ble_eq_true rfl⟩) (fun k H locs ce q9 e1 hI g1 g2 g3 => ?_) (fun v H locs e1 hI => ?_)
  · rcases hk k e1 with e | e
    · subst e
      refine vx_catch C0.2.2.2.1 (tableOf []) ⟨0, 9, 12, 13⟩ (tableOf [(0, 9, 15, 38)]) hTB (fun z hz => nomatch hz) (by decide) (by decide) (C0.2.2.2.2 _ w_749) (va_Nw.use rfl (C1.2.2.2.2.2.1 _ (List.mem_of_getElem? (i := 0) rfl))) g1 g2 g3 ?_
      refine lv_astore_n (lv' := [(3, .ref q9), (0, .ref (b 0)), (1, .int x1), (2, .ref q1)]) C0.1 C0.2.1 dL_nextFrog_12 rfl hl (by decide) rfl (fun ls hl => ?_)
      refine lv_iconst (v := 1) C0.1 C0.2.1 dL_nextFrog_13 (by decide) ?_
      exact e_h C0 rfl hI hr hlocks (by rw [cxl e1]; decide) (by rw [oul e1]) rfl dL_nextFrog_14
    · subst e
      refine vx_catch C0.2.2.2.1 (tableOf [(0, 9, 12, 13)]) ⟨0, 9, 15, 38⟩ (tableOf []) hTB (List.forall_mem_cons.mpr ⟨Or.inr ⟨by decide, "java/lang/IndexOutOfBoundsException", C0.2.2.2.2 _ w_749, C1.2.2.2.2.2.2.1 _ (List.mem_of_getElem? (i := 3) rfl)⟩, fun _ h => absurd h List.not_mem_nil⟩) (by decide) (by decide) (C0.2.2.2.2 _ w_888) (va_Nw.use rfl (C1.2.2.2.2.2.1 _ (List.mem_of_getElem? (i := 4) rfl))) g1 g2 g3 ?_
      refine lv_astore_n (lv' := [(3, .ref q9), (0, .ref (b 0)), (1, .int x1), (2, .ref q1)]) C0.1 C0.2.1 dL_nextFrog_15 rfl hl (by decide) rfl (fun ls hl => ?_)
      refine lv_iconst (v := 2) C0.1 C0.2.1 dL_nextFrog_16 (by decide) ?_
      exact e_h C0 rfl hI hr hlocks (by rw [cxl e1]; decide) (by rw [oul e1]) rfl dL_nextFrog_17
  · refine lv_i2l C0.1 C0.2.1 dL_nextFrog_7 rfl ?_
    refine o_last (W1 := xb g r T) 2 rfl C0 C1 hI dL_nextFrog_8 (fun H locs eA C1 hI => ?_)
    refine lv_goto (tgt := 18) C0.1 C0.2.1 dL_nextFrog_9 (by decide) ?_
    refine lv_iconst (v := 0) C0.1 C0.2.1 dL_nextFrog_18 (by decide) ?_
    exact e_h C0 eA hI hr hlocks (cxr e1).symm (by rw [our (f := ciI) e1]) rfl dL_nextFrog_19

theorem hd_L_nextFrogByScan : yL_nextFrogByScan.cls ≠ "java/lang/invoke/MethodHandle" ∧ yL_nextFrogByScan.cls ≠ "java/lang/invoke/VarHandle" ∧ (parseMethodDescriptor yL_nextFrogByScan.desc).map (fun d => d.parameters.length) = some 3 := ⟨by decide +kernel, by decide +kernel, by decide +kernel⟩
set_option maxHeartbeats 4000000 in
theorem h_nextFrogByScan (l : Launch) (hl0 : l.stackTraces = false) (g : GG) (Y : va_W) (r b : Nat → Nat) (sz n : Nat) (T M : Mem) (q1 q2 : Nat) (o : Nat → Int64) (d : Nat → UInt64) (x1 : Int32) {q0 : RX Int32} (hf : F_X9_nextFrogByScan n x1 M = some q0) (hk : ∀ k, q0 = .inl k → k = 2 ∨ k = 5) : Met l yL_nextFrogByScan (.codeWith yL_nextFrogByScan method_19_code 4 (some .int) [(0, 9, 12, 13), (0, 9, 15, 38)] :: LWg) (rmD 11 1 6) (va_Pc [.ref (b 0), .int x1, .ref q1] (PreP g (xb g r T ++ (outs g q1 q2 o d ++ Y)) 372 (shI g r b) b sz M)) (va_Qi (fun res (_ : Unit) => res = cx [2, 5] q0) (fun _ t => PoP g (xb g r T ++ (outs g q1 q2 (ou ciI o q0) d ++ Y)) 372 (shI g r b) b M t) (AA (xb g r T ++ (outs g q1 q2 o d ++ Y)) b 372 sz)) 1 6 (AA (xb g r T ++ (outs g q1 q2 o d ++ Y)) b 372 sz) := by
  refine metH_go (by decide +kernel) rfl (Nat.le_of_ble_eq_true rfl) ?_
  intro p e s m below meth c ls H locs C0 C1 hr hlocks hTB hsz hl hI
  subst hsz
  have hl : lv_has ls 4 [(0, .ref (b 0)), (1, .int x1), (2, .ref q1)] := hl
  refine lv_aload_n C0.1 C0.2.1 dL_nextFrogByScan_0 rfl (lv_at hl 2 rfl) ?_
  refine lv_iconst (v := 0) C0.1 C0.2.1 dL_nextFrogByScan_1 (by decide) ?_
  refine lv_aload_n C0.1 C0.2.1 dL_nextFrogByScan_2 rfl (lv_at hl 0 rfl) ?_
  refine lv_iload_n C0.1 C0.2.1 dL_nextFrogByScan_3 rfl (lv_at hl 1 rfl) ?_
  refine kx_i C1 hI (qx_V (As := [.int x1]) C0 C1 hI 0 (c_X9_nextFrogByScan l hl0 g (xb g r T ++ (outs g q1 q2 o d ++ Y)) r b H.size n M x1 hf) w_1033 w_693 w_694 w_119 w_695 ⟨rfl, rfl⟩ hd_X9_nextFrogByScan ⟨Nat.le_of_ble_eq_true rfl, Nat.le_of_ble_eq_true rfl⟩ (kdlt0 (rfl : kdI 0 = 0)) (shI_0 (rfl : kdI 0 = 0) _) rfl rfl rfl hl.1 rfl (Nat.le_of_ble_eq_true rfl) dL_nextFrogByScan_4 ⟨Nat.le_of_ble_eq_true rfl, Nat.le_of_ble_eq_true rfl⟩) (fun k H locs ce q9 e1 hI g1 g2 g3 => ?_) (fun v H locs e1 hI => ?_)
  · rcases hk k e1 with e | e
    · subst e
      refine vx_catch C0.2.2.2.1 (tableOf []) ⟨0, 9, 12, 13⟩ (tableOf [(0, 9, 15, 38)]) hTB (fun z hz => nomatch hz) (by decide) (by decide) (C0.2.2.2.2 _ w_749) (va_Nw.use rfl (C1.2.2.2.2.2.1 _ (List.mem_of_getElem? (i := 0) rfl))) g1 g2 g3 ?_
      refine lv_astore_n (lv' := [(3, .ref q9), (0, .ref (b 0)), (1, .int x1), (2, .ref q1)]) C0.1 C0.2.1 dL_nextFrogByScan_12 rfl hl (by decide) rfl (fun ls hl => ?_)
      refine lv_iconst (v := 1) C0.1 C0.2.1 dL_nextFrogByScan_13 (by decide) ?_
      exact e_h C0 rfl hI hr hlocks (by rw [cxl e1]; decide) (by rw [oul e1]) rfl dL_nextFrogByScan_14
    · subst e
      refine vx_catch C0.2.2.2.1 (tableOf [(0, 9, 12, 13)]) ⟨0, 9, 15, 38⟩ (tableOf []) hTB (List.forall_mem_cons.mpr ⟨Or.inr ⟨by decide, "java/lang/IndexOutOfBoundsException", C0.2.2.2.2 _ w_749, C1.2.2.2.2.2.2.1 _ (List.mem_of_getElem? (i := 3) rfl)⟩, fun _ h => absurd h List.not_mem_nil⟩) (by decide) (by decide) (C0.2.2.2.2 _ w_888) (va_Nw.use rfl (C1.2.2.2.2.2.1 _ (List.mem_of_getElem? (i := 4) rfl))) g1 g2 g3 ?_
      refine lv_astore_n (lv' := [(3, .ref q9), (0, .ref (b 0)), (1, .int x1), (2, .ref q1)]) C0.1 C0.2.1 dL_nextFrogByScan_15 rfl hl (by decide) rfl (fun ls hl => ?_)
      refine lv_iconst (v := 2) C0.1 C0.2.1 dL_nextFrogByScan_16 (by decide) ?_
      exact e_h C0 rfl hI hr hlocks (by rw [cxl e1]; decide) (by rw [oul e1]) rfl dL_nextFrogByScan_17
  · refine lv_i2l C0.1 C0.2.1 dL_nextFrogByScan_7 rfl ?_
    refine o_last (W1 := xb g r T) 2 rfl C0 C1 hI dL_nextFrogByScan_8 (fun H locs eA C1 hI => ?_)
    refine lv_goto (tgt := 18) C0.1 C0.2.1 dL_nextFrogByScan_9 (by decide) ?_
    refine lv_iconst (v := 0) C0.1 C0.2.1 dL_nextFrogByScan_18 (by decide) ?_
    exact e_h C0 eA hI hr hlocks (cxr e1).symm (by rw [our (f := ciI) e1]) rfl dL_nextFrogByScan_19

theorem hd_L_frogsBefore : yL_frogsBefore.cls ≠ "java/lang/invoke/MethodHandle" ∧ yL_frogsBefore.cls ≠ "java/lang/invoke/VarHandle" ∧ (parseMethodDescriptor yL_frogsBefore.desc).map (fun d => d.parameters.length) = some 4 := ⟨by decide +kernel, by decide +kernel, by decide +kernel⟩
set_option maxHeartbeats 4000000 in
theorem h_frogsBefore (l : Launch) (hl0 : l.stackTraces = false) (g : GG) (Y : va_W) (r b : Nat → Nat) (sz n : Nat) (T M : Mem) (q1 q2 : Nat) (o : Nat → Int64) (d : Nat → UInt64) (x1 : Int32) (x2 : Int32) {q0 : RX Int32} (hf : F_X9_frogsBefore n x1 x2 M = some q0) (hk : ∀ k, q0 = .inl k → k = 2 ∨ k = 5) : Met l yL_frogsBefore (.codeWith yL_frogsBefore method_20_code 5 (some .int) [(0, 10, 13, 13), (0, 10, 17, 38)] :: LWg) (rmD 11 1 6) (va_Pc [.ref (b 0), .int x1, .int x2, .ref q1] (PreP g (xb g r T ++ (outs g q1 q2 o d ++ Y)) 372 (shI g r b) b sz M)) (va_Qi (fun res (_ : Unit) => res = cx [2, 5] q0) (fun _ t => PoP g (xb g r T ++ (outs g q1 q2 (ou ciI o q0) d ++ Y)) 372 (shI g r b) b M t) (AA (xb g r T ++ (outs g q1 q2 o d ++ Y)) b 372 sz)) 1 6 (AA (xb g r T ++ (outs g q1 q2 o d ++ Y)) b 372 sz) := by
  refine metH_go (by decide +kernel) rfl (Nat.le_of_ble_eq_true rfl) ?_
  intro p e s m below meth c ls H locs C0 C1 hr hlocks hTB hsz hl hI
  subst hsz
  have hl : lv_has ls 5 [(0, .ref (b 0)), (1, .int x1), (2, .int x2), (3, .ref q1)] := hl
  refine lv_aload_n C0.1 C0.2.1 dL_frogsBefore_0 rfl (lv_at hl 3 rfl) ?_
  refine lv_iconst (v := 0) C0.1 C0.2.1 dL_frogsBefore_1 (by decide) ?_
  refine lv_aload_n C0.1 C0.2.1 dL_frogsBefore_2 rfl (lv_at hl 0 rfl) ?_
  refine lv_iload_n C0.1 C0.2.1 dL_frogsBefore_3 rfl (lv_at hl 1 rfl) ?_
  refine lv_iload_n C0.1 C0.2.1 dL_frogsBefore_4 rfl (lv_at hl 2 rfl) ?_
  refine kx_i C1 hI (qx_V (As := [.int x1, .int x2]) C0 C1 hI 0 (c_X9_frogsBefore l hl0 g (xb g r T ++ (outs g q1 q2 o d ++ Y)) r b H.size n M x1 x2 hf) w_1037 w_1038 w_1039 w_119 w_1040 ⟨rfl, rfl⟩ hd_X9_frogsBefore ⟨Nat.le_of_ble_eq_true rfl, Nat.le_of_ble_eq_true rfl⟩ (kdlt0 (rfl : kdI 0 = 0)) (shI_0 (rfl : kdI 0 = 0) _) rfl rfl rfl hl.1 rfl (Nat.le_of_ble_eq_true rfl) dL_frogsBefore_5 ⟨Nat.le_of_ble_eq_true rfl, Nat.le_of_ble_eq_true rfl⟩) (fun k H locs ce q9 e1 hI g1 g2 g3 => ?_) (fun v H locs e1 hI => ?_)
  · rcases hk k e1 with e | e
    · subst e
      refine vx_catch C0.2.2.2.1 (tableOf []) ⟨0, 10, 13, 13⟩ (tableOf [(0, 10, 17, 38)]) hTB (fun z hz => nomatch hz) (by decide) (by decide) (C0.2.2.2.2 _ w_749) (va_Nw.use rfl (C1.2.2.2.2.2.1 _ (List.mem_of_getElem? (i := 0) rfl))) g1 g2 g3 ?_
      refine lv_astore (lv' := [(4, .ref q9), (0, .ref (b 0)), (1, .int x1), (2, .int x2), (3, .ref q1)]) C0.1 C0.2.1 dL_frogsBefore_13 hl (by decide) rfl (fun ls hl => ?_)
      refine lv_iconst (v := 1) C0.1 C0.2.1 dL_frogsBefore_15 (by decide) ?_
      exact e_h C0 rfl hI hr hlocks (by rw [cxl e1]; decide) (by rw [oul e1]) rfl dL_frogsBefore_16
    · subst e
      refine vx_catch C0.2.2.2.1 (tableOf [(0, 10, 13, 13)]) ⟨0, 10, 17, 38⟩ (tableOf []) hTB (List.forall_mem_cons.mpr ⟨Or.inr ⟨by decide, "java/lang/IndexOutOfBoundsException", C0.2.2.2.2 _ w_749, C1.2.2.2.2.2.2.1 _ (List.mem_of_getElem? (i := 3) rfl)⟩, fun _ h => absurd h List.not_mem_nil⟩) (by decide) (by decide) (C0.2.2.2.2 _ w_888) (va_Nw.use rfl (C1.2.2.2.2.2.1 _ (List.mem_of_getElem? (i := 4) rfl))) g1 g2 g3 ?_
      refine lv_astore (lv' := [(4, .ref q9), (0, .ref (b 0)), (1, .int x1), (2, .int x2), (3, .ref q1)]) C0.1 C0.2.1 dL_frogsBefore_17 hl (by decide) rfl (fun ls hl => ?_)
      refine lv_iconst (v := 2) C0.1 C0.2.1 dL_frogsBefore_19 (by decide) ?_
      exact e_h C0 rfl hI hr hlocks (by rw [cxl e1]; decide) (by rw [oul e1]) rfl dL_frogsBefore_20
  · refine lv_i2l C0.1 C0.2.1 dL_frogsBefore_8 rfl ?_
    refine o_last (W1 := xb g r T) 2 rfl C0 C1 hI dL_frogsBefore_9 (fun H locs eA C1 hI => ?_)
    refine lv_goto (tgt := 21) C0.1 C0.2.1 dL_frogsBefore_10 (by decide) ?_
    refine lv_iconst (v := 0) C0.1 C0.2.1 dL_frogsBefore_21 (by decide) ?_
    exact e_h C0 eA hI hr hlocks (cxr e1).symm (by rw [our (f := ciI) e1]) rfl dL_frogsBefore_22

theorem hd_L_speeches : yL_speeches.cls ≠ "java/lang/invoke/MethodHandle" ∧ yL_speeches.cls ≠ "java/lang/invoke/VarHandle" ∧ (parseMethodDescriptor yL_speeches.desc).map (fun d => d.parameters.length) = some 3 := ⟨by decide +kernel, by decide +kernel, by decide +kernel⟩
set_option maxHeartbeats 4000000 in
theorem h_speeches (l : Launch) (hl0 : l.stackTraces = false) (g : GG) (Y : va_W) (r b : Nat → Nat) (sz n : Nat) (T M : Mem) (q1 q2 : Nat) (o : Nat → Int64) (d : Nat → UInt64) (x1 : Int32) {q0 : RX Int32} (hf : F_X9_speeches n x1 M = some q0) (hk : ∀ k, q0 = .inl k → k = 2) : Met l yL_speeches (.codeWith yL_speeches method_21_code 4 (some .int) [(0, 9, 12, 13)] :: LWg) (rmD 12 1 6) (va_Pc [.ref (b 0), .int x1, .ref q1] (PreP g (xb g r T ++ (outs g q1 q2 o d ++ Y)) 372 (shI g r b) b sz M)) (va_Qi (fun res (_ : Unit) => res = cx [2] q0) (fun _ t => PoP g (xb g r T ++ (outs g q1 q2 (ou ciI o q0) d ++ Y)) 372 (shI g r b) b M t) (AA (xb g r T ++ (outs g q1 q2 o d ++ Y)) b 372 sz)) 1 6 (AA (xb g r T ++ (outs g q1 q2 o d ++ Y)) b 372 sz) := by
  refine metH_go (by decide +kernel) rfl (Nat.le_of_ble_eq_true rfl) ?_
  intro p e s m below meth c ls H locs C0 C1 hr hlocks hTB hsz hl hI
  subst hsz
  have hl : lv_has ls 4 [(0, .ref (b 0)), (1, .int x1), (2, .ref q1)] := hl
  refine lv_aload_n C0.1 C0.2.1 dL_speeches_0 rfl (lv_at hl 2 rfl) ?_
  refine lv_iconst (v := 0) C0.1 C0.2.1 dL_speeches_1 (by decide) ?_
  refine lv_aload_n C0.1 C0.2.1 dL_speeches_2 rfl (lv_at hl 0 rfl) ?_
  refine lv_iload_n C0.1 C0.2.1 dL_speeches_3 rfl (lv_at hl 1 rfl) ?_
  refine kx_i C1 hI (qx_V (As := [.int x1]) C0 C1 hI 0 (c_X9_speeches l hl0 g (xb g r T ++ (outs g q1 q2 o d ++ Y)) r b H.size n M x1 hf) w_1046 w_1047 w_1048 w_119 w_1049 ⟨rfl, rfl⟩ hd_X9_speeches ⟨Nat.le_of_ble_eq_true rfl, Nat.le_of_ble_eq_true rfl⟩ (kdlt0 (rfl : kdI 0 = 0)) (shI_0 (rfl : kdI 0 = 0) _) rfl rfl rfl hl.1 rfl (Nat.le_of_ble_eq_true rfl) dL_speeches_4 ⟨Nat.le_of_ble_eq_true rfl, Nat.le_of_ble_eq_true rfl⟩) (fun k H locs ce q9 e1 hI g1 g2 g3 => ?_) (fun v H locs e1 hI => ?_)
  · rcases hk k e1 with e
    · subst e
      refine vx_catch C0.2.2.2.1 (tableOf []) ⟨0, 9, 12, 13⟩ (tableOf []) hTB (fun z hz => nomatch hz) (by decide) (by decide) (C0.2.2.2.2 _ w_749) (va_Nw.use rfl (C1.2.2.2.2.2.1 _ (List.mem_of_getElem? (i := 0) rfl))) g1 g2 g3 ?_
      refine lv_astore_n (lv' := [(3, .ref q9), (0, .ref (b 0)), (1, .int x1), (2, .ref q1)]) C0.1 C0.2.1 dL_speeches_12 rfl hl (by decide) rfl (fun ls hl => ?_)
      refine lv_iconst (v := 1) C0.1 C0.2.1 dL_speeches_13 (by decide) ?_
      exact e_h C0 rfl hI hr hlocks (by rw [cxl e1]; decide) (by rw [oul e1]) rfl dL_speeches_14
  · refine lv_i2l C0.1 C0.2.1 dL_speeches_7 rfl ?_
    refine o_last (W1 := xb g r T) 2 rfl C0 C1 hI dL_speeches_8 (fun H locs eA C1 hI => ?_)
    refine lv_goto (tgt := 15) C0.1 C0.2.1 dL_speeches_9 (by decide) ?_
    refine lv_iconst (v := 0) C0.1 C0.2.1 dL_speeches_15 (by decide) ?_
    exact e_h C0 eA hI hr hlocks (cxr e1).symm (by rw [our (f := ciI) e1]) rfl dL_speeches_16

theorem hd_L_speechesOn : yL_speechesOn.cls ≠ "java/lang/invoke/MethodHandle" ∧ yL_speechesOn.cls ≠ "java/lang/invoke/VarHandle" ∧ (parseMethodDescriptor yL_speechesOn.desc).map (fun d => d.parameters.length) = some 3 := ⟨by decide +kernel, by decide +kernel, by decide +kernel⟩
set_option maxHeartbeats 4000000 in
theorem h_speechesOn (l : Launch) (hl0 : l.stackTraces = false) (g : GG) (Y : va_W) (r b : Nat → Nat) (sz n : Nat) (T M : Mem) (q1 q2 : Nat) (o : Nat → Int64) (d : Nat → UInt64) (x1 : Int32) {q0 : RX Int32} (hf : F_X9_speechesOn n x1 M = some q0) (hk : ∀ k, q0 = .inl k → k = 2) : Met l yL_speechesOn (.codeWith yL_speechesOn method_22_code 4 (some .int) [(0, 9, 12, 13)] :: LWg) (rmD 12 1 6) (va_Pc [.ref (b 0), .int x1, .ref q1] (PreP g (xb g r T ++ (outs g q1 q2 o d ++ Y)) 372 (shI g r b) b sz M)) (va_Qi (fun res (_ : Unit) => res = cx [2] q0) (fun _ t => PoP g (xb g r T ++ (outs g q1 q2 (ou ciI o q0) d ++ Y)) 372 (shI g r b) b M t) (AA (xb g r T ++ (outs g q1 q2 o d ++ Y)) b 372 sz)) 1 6 (AA (xb g r T ++ (outs g q1 q2 o d ++ Y)) b 372 sz) := by
  refine metH_go (by decide +kernel) rfl (Nat.le_of_ble_eq_true rfl) ?_
  intro p e s m below meth c ls H locs C0 C1 hr hlocks hTB hsz hl hI
  subst hsz
  have hl : lv_has ls 4 [(0, .ref (b 0)), (1, .int x1), (2, .ref q1)] := hl
  refine lv_aload_n C0.1 C0.2.1 dL_speechesOn_0 rfl (lv_at hl 2 rfl) ?_
  refine lv_iconst (v := 0) C0.1 C0.2.1 dL_speechesOn_1 (by decide) ?_
  refine lv_aload_n C0.1 C0.2.1 dL_speechesOn_2 rfl (lv_at hl 0 rfl) ?_
  refine lv_iload_n C0.1 C0.2.1 dL_speechesOn_3 rfl (lv_at hl 1 rfl) ?_
  refine kx_i C1 hI (qx_V (As := [.int x1]) C0 C1 hI 0 (c_X9_speechesOn l hl0 g (xb g r T ++ (outs g q1 q2 o d ++ Y)) r b H.size n M x1 hf) w_1053 w_726 w_727 w_119 w_728 ⟨rfl, rfl⟩ hd_X9_speechesOn ⟨Nat.le_of_ble_eq_true rfl, Nat.le_of_ble_eq_true rfl⟩ (kdlt0 (rfl : kdI 0 = 0)) (shI_0 (rfl : kdI 0 = 0) _) rfl rfl rfl hl.1 rfl (Nat.le_of_ble_eq_true rfl) dL_speechesOn_4 ⟨Nat.le_of_ble_eq_true rfl, Nat.le_of_ble_eq_true rfl⟩) (fun k H locs ce q9 e1 hI g1 g2 g3 => ?_) (fun v H locs e1 hI => ?_)
  · rcases hk k e1 with e
    · subst e
      refine vx_catch C0.2.2.2.1 (tableOf []) ⟨0, 9, 12, 13⟩ (tableOf []) hTB (fun z hz => nomatch hz) (by decide) (by decide) (C0.2.2.2.2 _ w_749) (va_Nw.use rfl (C1.2.2.2.2.2.1 _ (List.mem_of_getElem? (i := 0) rfl))) g1 g2 g3 ?_
      refine lv_astore_n (lv' := [(3, .ref q9), (0, .ref (b 0)), (1, .int x1), (2, .ref q1)]) C0.1 C0.2.1 dL_speechesOn_12 rfl hl (by decide) rfl (fun ls hl => ?_)
      refine lv_iconst (v := 1) C0.1 C0.2.1 dL_speechesOn_13 (by decide) ?_
      exact e_h C0 rfl hI hr hlocks (by rw [cxl e1]; decide) (by rw [oul e1]) rfl dL_speechesOn_14
  · refine lv_i2l C0.1 C0.2.1 dL_speechesOn_7 rfl ?_
    refine o_last (W1 := xb g r T) 2 rfl C0 C1 hI dL_speechesOn_8 (fun H locs eA C1 hI => ?_)
    refine lv_goto (tgt := 15) C0.1 C0.2.1 dL_speechesOn_9 (by decide) ?_
    refine lv_iconst (v := 0) C0.1 C0.2.1 dL_speechesOn_15 (by decide) ?_
    exact e_h C0 eA hI hr hlocks (cxr e1).symm (by rw [our (f := ciI) e1]) rfl dL_speechesOn_16

theorem hd_L_frogAtRank : yL_frogAtRank.cls ≠ "java/lang/invoke/MethodHandle" ∧ yL_frogAtRank.cls ≠ "java/lang/invoke/VarHandle" ∧ (parseMethodDescriptor yL_frogAtRank.desc).map (fun d => d.parameters.length) = some 3 := ⟨by decide +kernel, by decide +kernel, by decide +kernel⟩
set_option maxHeartbeats 4000000 in
theorem h_frogAtRank (l : Launch) (hl0 : l.stackTraces = false) (g : GG) (Y : va_W) (r b : Nat → Nat) (sz n : Nat) (T M : Mem) (q1 q2 : Nat) (o : Nat → Int64) (d : Nat → UInt64) (x1 : Int32) {q0 : RX Int32} (hf : F_X9_frogAtRank n x1 M = some q0) (hk : ∀ k, q0 = .inl k → k = 5) : Met l yL_frogAtRank (.codeWith yL_frogAtRank method_23_code 4 (some .int) [(0, 9, 12, 38)] :: LWg) (rmD 9 1 6) (va_Pc [.ref (b 0), .int x1, .ref q1] (PreP g (xb g r T ++ (outs g q1 q2 o d ++ Y)) 372 (shI g r b) b sz M)) (va_Qi (fun res (_ : Unit) => res = cx [5] q0) (fun _ t => PoP g (xb g r T ++ (outs g q1 q2 (ou ciI o q0) d ++ Y)) 372 (shI g r b) b M t) (AA (xb g r T ++ (outs g q1 q2 o d ++ Y)) b 372 sz)) 1 6 (AA (xb g r T ++ (outs g q1 q2 o d ++ Y)) b 372 sz) := by
  refine metH_go (by decide +kernel) rfl (Nat.le_of_ble_eq_true rfl) ?_
  intro p e s m below meth c ls H locs C0 C1 hr hlocks hTB hsz hl hI
  subst hsz
  have hl : lv_has ls 4 [(0, .ref (b 0)), (1, .int x1), (2, .ref q1)] := hl
  refine lv_aload_n C0.1 C0.2.1 dL_frogAtRank_0 rfl (lv_at hl 2 rfl) ?_
  refine lv_iconst (v := 0) C0.1 C0.2.1 dL_frogAtRank_1 (by decide) ?_
  refine lv_aload_n C0.1 C0.2.1 dL_frogAtRank_2 rfl (lv_at hl 0 rfl) ?_
  refine lv_iload_n C0.1 C0.2.1 dL_frogAtRank_3 rfl (lv_at hl 1 rfl) ?_
  refine kx_i C1 hI (qx_V (As := [.int x1]) C0 C1 hI 0 (c_X9_frogAtRank l hl0 g (xb g r T ++ (outs g q1 q2 o d ++ Y)) r b H.size n M x1 hf) w_1057 w_1058 w_1059 w_119 w_1060 ⟨rfl, rfl⟩ hd_X9_frogAtRank ⟨Nat.le_of_ble_eq_true rfl, Nat.le_of_ble_eq_true rfl⟩ (kdlt0 (rfl : kdI 0 = 0)) (shI_0 (rfl : kdI 0 = 0) _) rfl rfl rfl hl.1 rfl (Nat.le_of_ble_eq_true rfl) dL_frogAtRank_4 ⟨Nat.le_of_ble_eq_true rfl, Nat.le_of_ble_eq_true rfl⟩) (fun k H locs ce q9 e1 hI g1 g2 g3 => ?_) (fun v H locs e1 hI => ?_)
  · rcases hk k e1 with e
    · subst e
      refine vx_catch C0.2.2.2.1 (tableOf []) ⟨0, 9, 12, 38⟩ (tableOf []) hTB (fun z hz => nomatch hz) (by decide) (by decide) (C0.2.2.2.2 _ w_888) (va_Nw.use rfl (C1.2.2.2.2.2.1 _ (List.mem_of_getElem? (i := 4) rfl))) g1 g2 g3 ?_
      refine lv_astore_n (lv' := [(3, .ref q9), (0, .ref (b 0)), (1, .int x1), (2, .ref q1)]) C0.1 C0.2.1 dL_frogAtRank_12 rfl hl (by decide) rfl (fun ls hl => ?_)
      refine lv_iconst (v := 1) C0.1 C0.2.1 dL_frogAtRank_13 (by decide) ?_
      exact e_h C0 rfl hI hr hlocks (by rw [cxl e1]; decide) (by rw [oul e1]) rfl dL_frogAtRank_14
  · refine lv_i2l C0.1 C0.2.1 dL_frogAtRank_7 rfl ?_
    refine o_last (W1 := xb g r T) 2 rfl C0 C1 hI dL_frogAtRank_8 (fun H locs eA C1 hI => ?_)
    refine lv_goto (tgt := 15) C0.1 C0.2.1 dL_frogAtRank_9 (by decide) ?_
    refine lv_iconst (v := 0) C0.1 C0.2.1 dL_frogAtRank_15 (by decide) ?_
    exact e_h C0 eA hI hr hlocks (cxr e1).symm (by rw [our (f := ciI) e1]) rfl dL_frogAtRank_16

theorem hd_L_supportClosure : yL_supportClosure.cls ≠ "java/lang/invoke/MethodHandle" ∧ yL_supportClosure.cls ≠ "java/lang/invoke/VarHandle" ∧ (parseMethodDescriptor yL_supportClosure.desc).map (fun d => d.parameters.length) = some 4 := ⟨by decide +kernel, by decide +kernel, by decide +kernel⟩
set_option maxHeartbeats 4000000 in
theorem h_supportClosure (l : Launch) (hl0 : l.stackTraces = false) (g : GG) (Y : va_W) (r b : Nat → Nat) (sz n : Nat) (T M : Mem) (q1 q2 : Nat) (o : Nat → Int64) (d : Nat → UInt64) (x1 : Int32) (x2 : Int32) {q0 : RX Int32} {M' : Mem} (hf : F_X9_supportClosure n x1 x2 M = some (q0, M')) (hk : ∀ k, q0 = .inl k → k = 2 ∨ k = 1 ∨ k = 0 ∨ k = 4) : Met l yL_supportClosure (.codeWith yL_supportClosure method_24_code 5 (some .int) [(0, 17, 20, 13), (0, 17, 24, 15), (0, 17, 28, 17), (0, 17, 32, 56)] :: LWg) (rmD 11 1 6) (va_Pc [.ref (b 0), .int x1, .int x2, .ref q1] (PreP g (xb g r T ++ (outs g q1 q2 o d ++ Y)) 372 (shI g r b) b sz M)) (va_Qi (fun res (_ : Unit) => res = cx [2, 1, 0, 4] q0) (fun _ t => PoP g (xb g r T ++ (outs g q1 q2 (ou ciZ o q0) d ++ Y)) 372 (shI g r b) b M' t) (AA (xb g r T ++ (outs g q1 q2 o d ++ Y)) b 372 sz)) 1 6 (AA (xb g r T ++ (outs g q1 q2 o d ++ Y)) b 372 sz) := by
  refine metH_go (by decide +kernel) rfl (Nat.le_of_ble_eq_true rfl) ?_
  intro p e s m below meth c ls H locs C0 C1 hr hlocks hTB hsz hl hI
  subst hsz
  have hl : lv_has ls 5 [(0, .ref (b 0)), (1, .int x1), (2, .int x2), (3, .ref q1)] := hl
  refine lv_aload_n C0.1 C0.2.1 dL_supportClosure_0 rfl (lv_at hl 3 rfl) ?_
  refine lv_iconst (v := 0) C0.1 C0.2.1 dL_supportClosure_1 (by decide) ?_
  refine lv_aload_n C0.1 C0.2.1 dL_supportClosure_2 rfl (lv_at hl 0 rfl) ?_
  refine lv_iload_n C0.1 C0.2.1 dL_supportClosure_3 rfl (lv_at hl 1 rfl) ?_
  refine lv_iload_n C0.1 C0.2.1 dL_supportClosure_4 rfl (lv_at hl 2 rfl) ?_
  refine kx_i C1 hI (qx_V (As := [.int x1, .int x2]) C0 C1 hI 0 (c_X9_supportClosure l hl0 g (xb g r T ++ (outs g q1 q2 o d ++ Y)) r b H.size n M x1 x2 hf) w_1073 w_1074 w_1075 w_119 w_1076 ⟨rfl, rfl⟩ hd_X9_supportClosure ⟨Nat.le_of_ble_eq_true rfl, Nat.le_of_ble_eq_true rfl⟩ (kdlt0 (rfl : kdI 0 = 0)) (shI_0 (rfl : kdI 0 = 0) _) rfl rfl rfl hl.1 rfl (Nat.le_of_ble_eq_true rfl) dL_supportClosure_5 ⟨Nat.le_of_ble_eq_true rfl, Nat.le_of_ble_eq_true rfl⟩) (fun k H locs ce q9 e1 hI g1 g2 g3 => ?_) (fun v H locs e1 hI => ?_)
  · rcases hk k e1 with e | e | e | e
    · subst e
      refine vx_catch C0.2.2.2.1 (tableOf []) ⟨0, 17, 20, 13⟩ (tableOf [(0, 17, 24, 15), (0, 17, 28, 17), (0, 17, 32, 56)]) hTB (fun z hz => nomatch hz) (by decide) (by decide) (C0.2.2.2.2 _ w_749) (va_Nw.use rfl (C1.2.2.2.2.2.1 _ (List.mem_of_getElem? (i := 0) rfl))) g1 g2 g3 ?_
      refine lv_astore (lv' := [(4, .ref q9), (0, .ref (b 0)), (1, .int x1), (2, .int x2), (3, .ref q1)]) C0.1 C0.2.1 dL_supportClosure_20 hl (by decide) rfl (fun ls hl => ?_)
      refine lv_iconst (v := 1) C0.1 C0.2.1 dL_supportClosure_22 (by decide) ?_
      exact e_h C0 rfl hI hr hlocks (by rw [cxl e1]; decide) (by rw [oul e1]) rfl dL_supportClosure_23
    · subst e
      refine vx_catch C0.2.2.2.1 (tableOf [(0, 17, 20, 13)]) ⟨0, 17, 24, 15⟩ (tableOf [(0, 17, 28, 17), (0, 17, 32, 56)]) hTB (List.forall_mem_cons.mpr ⟨Or.inr ⟨by decide, "java/lang/IndexOutOfBoundsException", C0.2.2.2.2 _ w_749, C1.2.2.2.2.2.2.1 _ (List.mem_of_getElem? (i := 0) rfl)⟩, fun _ h => absurd h List.not_mem_nil⟩) (by decide) (by decide) (C0.2.2.2.2 _ w_770) (va_Nw.use rfl (C1.2.2.2.2.2.1 _ (List.mem_of_getElem? (i := 1) rfl))) g1 g2 g3 ?_
      refine lv_astore (lv' := [(4, .ref q9), (0, .ref (b 0)), (1, .int x1), (2, .int x2), (3, .ref q1)]) C0.1 C0.2.1 dL_supportClosure_24 hl (by decide) rfl (fun ls hl => ?_)
      refine lv_iconst (v := 2) C0.1 C0.2.1 dL_supportClosure_26 (by decide) ?_
      exact e_h C0 rfl hI hr hlocks (by rw [cxl e1]; decide) (by rw [oul e1]) rfl dL_supportClosure_27
    · subst e
      refine vx_catch C0.2.2.2.1 (tableOf [(0, 17, 20, 13), (0, 17, 24, 15)]) ⟨0, 17, 28, 17⟩ (tableOf [(0, 17, 32, 56)]) hTB (List.forall_mem_cons.mpr ⟨Or.inr ⟨by decide, "java/lang/IndexOutOfBoundsException", C0.2.2.2.2 _ w_749, C1.2.2.2.2.2.2.1 _ (List.mem_of_getElem? (i := 1) rfl)⟩, List.forall_mem_cons.mpr ⟨Or.inr ⟨by decide, "java/lang/IllegalArgumentException", C0.2.2.2.2 _ w_770, C1.2.2.2.2.2.2.1 _ (List.mem_of_getElem? (i := 6) rfl)⟩, fun _ h => absurd h List.not_mem_nil⟩⟩) (by decide) (by decide) (C0.2.2.2.2 _ w_771) (va_Nw.use rfl (C1.2.2.2.2.2.1 _ (List.mem_of_getElem? (i := 2) rfl))) g1 g2 g3 ?_
      refine lv_astore (lv' := [(4, .ref q9), (0, .ref (b 0)), (1, .int x1), (2, .int x2), (3, .ref q1)]) C0.1 C0.2.1 dL_supportClosure_28 hl (by decide) rfl (fun ls hl => ?_)
      refine lv_iconst (v := 3) C0.1 C0.2.1 dL_supportClosure_30 (by decide) ?_
      exact e_h C0 rfl hI hr hlocks (by rw [cxl e1]; decide) (by rw [oul e1]) rfl dL_supportClosure_31
    · subst e
      refine vx_catch C0.2.2.2.1 (tableOf [(0, 17, 20, 13), (0, 17, 24, 15), (0, 17, 28, 17)]) ⟨0, 17, 32, 56⟩ (tableOf []) hTB (List.forall_mem_cons.mpr ⟨Or.inr ⟨by decide, "java/lang/IndexOutOfBoundsException", C0.2.2.2.2 _ w_749, C1.2.2.2.2.2.2.1 _ (List.mem_of_getElem? (i := 2) rfl)⟩, List.forall_mem_cons.mpr ⟨Or.inr ⟨by decide, "java/lang/IllegalArgumentException", C0.2.2.2.2 _ w_770, C1.2.2.2.2.2.2.1 _ (List.mem_of_getElem? (i := 7) rfl)⟩, List.forall_mem_cons.mpr ⟨Or.inr ⟨by decide, "java/lang/IllegalStateException", C0.2.2.2.2 _ w_771, C1.2.2.2.2.2.2.1 _ (List.mem_of_getElem? (i := 12) rfl)⟩, fun _ h => absurd h List.not_mem_nil⟩⟩⟩) (by decide) (by decide) (C0.2.2.2.2 _ w_954) (va_Nw.use rfl (C1.2.2.2.2.2.1 _ (List.mem_of_getElem? (i := 3) rfl))) g1 g2 g3 ?_
      refine lv_astore (lv' := [(4, .ref q9), (0, .ref (b 0)), (1, .int x1), (2, .int x2), (3, .ref q1)]) C0.1 C0.2.1 dL_supportClosure_32 hl (by decide) rfl (fun ls hl => ?_)
      refine lv_iconst (v := 4) C0.1 C0.2.1 dL_supportClosure_34 (by decide) ?_
      exact e_h C0 rfl hI hr hlocks (by rw [cxl e1]; decide) (by rw [oul e1]) rfl dL_supportClosure_35
  · refine lv_if_eq (tgt := 15) C0.1 C0.2.1 dL_supportClosure_8 (by decide) (fun cz => ?_) (fun cz => ?_)
    · have e5 : ciZ v = 0 := if_pos cz
      refine lv_lconst (v := 0) C0.1 C0.2.1 dL_supportClosure_15 (by decide) ?_
      refine o_last (W1 := xb g r T) 2 rfl C0 C1 hI dL_supportClosure_16 (fun H locs eA C1 hI => ?_)
      refine lv_goto (tgt := 36) C0.1 C0.2.1 dL_supportClosure_17 (by decide) ?_
      refine lv_iconst (v := 0) C0.1 C0.2.1 dL_supportClosure_36 (by decide) ?_
      exact e_h C0 eA hI hr hlocks (cxr e1).symm (by rw [our (f := ciZ) e1, e5]) rfl dL_supportClosure_37
    · have e5 : ciZ v = 1 := if_neg cz
      refine lv_lconst (v := 1) C0.1 C0.2.1 dL_supportClosure_11 (by decide) ?_
      refine lv_goto (tgt := 16) C0.1 C0.2.1 dL_supportClosure_12 (by decide) ?_
      refine o_last (W1 := xb g r T) 2 rfl C0 C1 hI dL_supportClosure_16 (fun H locs eA C1 hI => ?_)
      refine lv_goto (tgt := 36) C0.1 C0.2.1 dL_supportClosure_17 (by decide) ?_
      refine lv_iconst (v := 0) C0.1 C0.2.1 dL_supportClosure_36 (by decide) ?_
      exact e_h C0 eA hI hr hlocks (cxr e1).symm (by rw [our (f := ciZ) e1, e5]) rfl dL_supportClosure_37

theorem hd_L_isListClosed : yL_isListClosed.cls ≠ "java/lang/invoke/MethodHandle" ∧ yL_isListClosed.cls ≠ "java/lang/invoke/VarHandle" ∧ (parseMethodDescriptor yL_isListClosed.desc).map (fun d => d.parameters.length) = some 3 := ⟨by decide +kernel, by decide +kernel, by decide +kernel⟩
set_option maxHeartbeats 4000000 in
theorem h_isListClosed (l : Launch) (hl0 : l.stackTraces = false) (g : GG) (Y : va_W) (r b : Nat → Nat) (sz n : Nat) (T M : Mem) (q1 q2 : Nat) (o : Nat → Int64) (d : Nat → UInt64) (x1 : Int32) {q0 : RX Int32} (hf : F_X9_isListClosed n x1 M = some q0) (hk : ∀ k, q0 = .inl k → k = 2) : Met l yL_isListClosed (.codeWith yL_isListClosed method_25_code 4 (some .int) [(0, 16, 19, 13)] :: LWg) (rmD 12 1 6) (va_Pc [.ref (b 0), .int x1, .ref q1] (PreP g (xb g r T ++ (outs g q1 q2 o d ++ Y)) 372 (shI g r b) b sz M)) (va_Qi (fun res (_ : Unit) => res = cx [2] q0) (fun _ t => PoP g (xb g r T ++ (outs g q1 q2 (ou ciZ o q0) d ++ Y)) 372 (shI g r b) b M t) (AA (xb g r T ++ (outs g q1 q2 o d ++ Y)) b 372 sz)) 1 6 (AA (xb g r T ++ (outs g q1 q2 o d ++ Y)) b 372 sz) := by
  refine metH_go (by decide +kernel) rfl (Nat.le_of_ble_eq_true rfl) ?_
  intro p e s m below meth c ls H locs C0 C1 hr hlocks hTB hsz hl hI
  subst hsz
  have hl : lv_has ls 4 [(0, .ref (b 0)), (1, .int x1), (2, .ref q1)] := hl
  refine lv_aload_n C0.1 C0.2.1 dL_isListClosed_0 rfl (lv_at hl 2 rfl) ?_
  refine lv_iconst (v := 0) C0.1 C0.2.1 dL_isListClosed_1 (by decide) ?_
  refine lv_aload_n C0.1 C0.2.1 dL_isListClosed_2 rfl (lv_at hl 0 rfl) ?_
  refine lv_iload_n C0.1 C0.2.1 dL_isListClosed_3 rfl (lv_at hl 1 rfl) ?_
  refine kx_i C1 hI (qx_V (As := [.int x1]) C0 C1 hI 0 (c_X9_isListClosed l hl0 g (xb g r T ++ (outs g q1 q2 o d ++ Y)) r b H.size n M x1 hf) w_1095 w_1096 w_1097 w_119 w_1098 ⟨rfl, rfl⟩ hd_X9_isListClosed ⟨Nat.le_of_ble_eq_true rfl, Nat.le_of_ble_eq_true rfl⟩ (kdlt0 (rfl : kdI 0 = 0)) (shI_0 (rfl : kdI 0 = 0) _) rfl rfl rfl hl.1 rfl (Nat.le_of_ble_eq_true rfl) dL_isListClosed_4 ⟨Nat.le_of_ble_eq_true rfl, Nat.le_of_ble_eq_true rfl⟩) (fun k H locs ce q9 e1 hI g1 g2 g3 => ?_) (fun v H locs e1 hI => ?_)
  · rcases hk k e1 with e
    · subst e
      refine vx_catch C0.2.2.2.1 (tableOf []) ⟨0, 16, 19, 13⟩ (tableOf []) hTB (fun z hz => nomatch hz) (by decide) (by decide) (C0.2.2.2.2 _ w_749) (va_Nw.use rfl (C1.2.2.2.2.2.1 _ (List.mem_of_getElem? (i := 0) rfl))) g1 g2 g3 ?_
      refine lv_astore_n (lv' := [(3, .ref q9), (0, .ref (b 0)), (1, .int x1), (2, .ref q1)]) C0.1 C0.2.1 dL_isListClosed_19 rfl hl (by decide) rfl (fun ls hl => ?_)
      refine lv_iconst (v := 1) C0.1 C0.2.1 dL_isListClosed_20 (by decide) ?_
      exact e_h C0 rfl hI hr hlocks (by rw [cxl e1]; decide) (by rw [oul e1]) rfl dL_isListClosed_21
  · refine lv_if_eq (tgt := 14) C0.1 C0.2.1 dL_isListClosed_7 (by decide) (fun cz => ?_) (fun cz => ?_)
    · have e5 : ciZ v = 0 := if_pos cz
      refine lv_lconst (v := 0) C0.1 C0.2.1 dL_isListClosed_14 (by decide) ?_
      refine o_last (W1 := xb g r T) 2 rfl C0 C1 hI dL_isListClosed_15 (fun H locs eA C1 hI => ?_)
      refine lv_goto (tgt := 22) C0.1 C0.2.1 dL_isListClosed_16 (by decide) ?_
      refine lv_iconst (v := 0) C0.1 C0.2.1 dL_isListClosed_22 (by decide) ?_
      exact e_h C0 eA hI hr hlocks (cxr e1).symm (by rw [our (f := ciZ) e1, e5]) rfl dL_isListClosed_23
    · have e5 : ciZ v = 1 := if_neg cz
      refine lv_lconst (v := 1) C0.1 C0.2.1 dL_isListClosed_10 (by decide) ?_
      refine lv_goto (tgt := 15) C0.1 C0.2.1 dL_isListClosed_11 (by decide) ?_
      refine o_last (W1 := xb g r T) 2 rfl C0 C1 hI dL_isListClosed_15 (fun H locs eA C1 hI => ?_)
      refine lv_goto (tgt := 22) C0.1 C0.2.1 dL_isListClosed_16 (by decide) ?_
      refine lv_iconst (v := 0) C0.1 C0.2.1 dL_isListClosed_22 (by decide) ?_
      exact e_h C0 eA hI hr hlocks (cxr e1).symm (by rw [our (f := ciZ) e1, e5]) rfl dL_isListClosed_23

theorem hd_L_closureWeight : yL_closureWeight.cls ≠ "java/lang/invoke/MethodHandle" ∧ yL_closureWeight.cls ≠ "java/lang/invoke/VarHandle" ∧ (parseMethodDescriptor yL_closureWeight.desc).map (fun d => d.parameters.length) = some 3 := ⟨by decide +kernel, by decide +kernel, by decide +kernel⟩
set_option maxHeartbeats 4000000 in
theorem h_closureWeight (l : Launch) (hl0 : l.stackTraces = false) (g : GG) (Y : va_W) (r b : Nat → Nat) (sz n : Nat) (T M : Mem) (q1 q2 : Nat) (o : Nat → Int64) (d : Nat → UInt64) (x1 : Int32) {q0 : RX Int32} (hf : F_X9_closureWeight n x1 M = some q0) (hk : ∀ k, q0 = .inl k → k = 2) : Met l yL_closureWeight (.codeWith yL_closureWeight method_26_code 4 (some .int) [(0, 9, 12, 13)] :: LWg) (rmD 12 1 6) (va_Pc [.ref (b 0), .int x1, .ref q1] (PreP g (xb g r T ++ (outs g q1 q2 o d ++ Y)) 372 (shI g r b) b sz M)) (va_Qi (fun res (_ : Unit) => res = cx [2] q0) (fun _ t => PoP g (xb g r T ++ (outs g q1 q2 (ou ciI o q0) d ++ Y)) 372 (shI g r b) b M t) (AA (xb g r T ++ (outs g q1 q2 o d ++ Y)) b 372 sz)) 1 6 (AA (xb g r T ++ (outs g q1 q2 o d ++ Y)) b 372 sz) := by
  refine metH_go (by decide +kernel) rfl (Nat.le_of_ble_eq_true rfl) ?_
  intro p e s m below meth c ls H locs C0 C1 hr hlocks hTB hsz hl hI
  subst hsz
  have hl : lv_has ls 4 [(0, .ref (b 0)), (1, .int x1), (2, .ref q1)] := hl
  refine lv_aload_n C0.1 C0.2.1 dL_closureWeight_0 rfl (lv_at hl 2 rfl) ?_
  refine lv_iconst (v := 0) C0.1 C0.2.1 dL_closureWeight_1 (by decide) ?_
  refine lv_aload_n C0.1 C0.2.1 dL_closureWeight_2 rfl (lv_at hl 0 rfl) ?_
  refine lv_iload_n C0.1 C0.2.1 dL_closureWeight_3 rfl (lv_at hl 1 rfl) ?_
  refine kx_i C1 hI (qx_V (As := [.int x1]) C0 C1 hI 0 (c_X9_closureWeight l hl0 g (xb g r T ++ (outs g q1 q2 o d ++ Y)) r b H.size n M x1 hf) w_1102 w_1103 w_1104 w_119 w_1105 ⟨rfl, rfl⟩ hd_X9_closureWeight ⟨Nat.le_of_ble_eq_true rfl, Nat.le_of_ble_eq_true rfl⟩ (kdlt0 (rfl : kdI 0 = 0)) (shI_0 (rfl : kdI 0 = 0) _) rfl rfl rfl hl.1 rfl (Nat.le_of_ble_eq_true rfl) dL_closureWeight_4 ⟨Nat.le_of_ble_eq_true rfl, Nat.le_of_ble_eq_true rfl⟩) (fun k H locs ce q9 e1 hI g1 g2 g3 => ?_) (fun v H locs e1 hI => ?_)
  · rcases hk k e1 with e
    · subst e
      refine vx_catch C0.2.2.2.1 (tableOf []) ⟨0, 9, 12, 13⟩ (tableOf []) hTB (fun z hz => nomatch hz) (by decide) (by decide) (C0.2.2.2.2 _ w_749) (va_Nw.use rfl (C1.2.2.2.2.2.1 _ (List.mem_of_getElem? (i := 0) rfl))) g1 g2 g3 ?_
      refine lv_astore_n (lv' := [(3, .ref q9), (0, .ref (b 0)), (1, .int x1), (2, .ref q1)]) C0.1 C0.2.1 dL_closureWeight_12 rfl hl (by decide) rfl (fun ls hl => ?_)
      refine lv_iconst (v := 1) C0.1 C0.2.1 dL_closureWeight_13 (by decide) ?_
      exact e_h C0 rfl hI hr hlocks (by rw [cxl e1]; decide) (by rw [oul e1]) rfl dL_closureWeight_14
  · refine lv_i2l C0.1 C0.2.1 dL_closureWeight_7 rfl ?_
    refine o_last (W1 := xb g r T) 2 rfl C0 C1 hI dL_closureWeight_8 (fun H locs eA C1 hI => ?_)
    refine lv_goto (tgt := 15) C0.1 C0.2.1 dL_closureWeight_9 (by decide) ?_
    refine lv_iconst (v := 0) C0.1 C0.2.1 dL_closureWeight_15 (by decide) ?_
    exact e_h C0 eA hI hr hlocks (cxr e1).symm (by rw [our (f := ciI) e1]) rfl dL_closureWeight_16

theorem hd_L_entitledWeight : yL_entitledWeight.cls ≠ "java/lang/invoke/MethodHandle" ∧ yL_entitledWeight.cls ≠ "java/lang/invoke/VarHandle" ∧ (parseMethodDescriptor yL_entitledWeight.desc).map (fun d => d.parameters.length) = some 3 := ⟨by decide +kernel, by decide +kernel, by decide +kernel⟩
set_option maxHeartbeats 4000000 in
theorem h_entitledWeight (l : Launch) (hl0 : l.stackTraces = false) (g : GG) (Y : va_W) (r b : Nat → Nat) (sz n : Nat) (T M : Mem) (q1 q2 : Nat) (o : Nat → Int64) (d : Nat → UInt64) (x1 : Int32) {q0 : RX Int32} (hf : F_X9_entitledWeight n x1 M = some q0) (hk : ∀ k, q0 = .inl k → k = 2) : Met l yL_entitledWeight (.codeWith yL_entitledWeight method_27_code 4 (some .int) [(0, 9, 12, 13)] :: LWg) (rmD 12 1 6) (va_Pc [.ref (b 0), .int x1, .ref q1] (PreP g (xb g r T ++ (outs g q1 q2 o d ++ Y)) 372 (shI g r b) b sz M)) (va_Qi (fun res (_ : Unit) => res = cx [2] q0) (fun _ t => PoP g (xb g r T ++ (outs g q1 q2 (ou ciI o q0) d ++ Y)) 372 (shI g r b) b M t) (AA (xb g r T ++ (outs g q1 q2 o d ++ Y)) b 372 sz)) 1 6 (AA (xb g r T ++ (outs g q1 q2 o d ++ Y)) b 372 sz) := by
  refine metH_go (by decide +kernel) rfl (Nat.le_of_ble_eq_true rfl) ?_
  intro p e s m below meth c ls H locs C0 C1 hr hlocks hTB hsz hl hI
  subst hsz
  have hl : lv_has ls 4 [(0, .ref (b 0)), (1, .int x1), (2, .ref q1)] := hl
  refine lv_aload_n C0.1 C0.2.1 dL_entitledWeight_0 rfl (lv_at hl 2 rfl) ?_
  refine lv_iconst (v := 0) C0.1 C0.2.1 dL_entitledWeight_1 (by decide) ?_
  refine lv_aload_n C0.1 C0.2.1 dL_entitledWeight_2 rfl (lv_at hl 0 rfl) ?_
  refine lv_iload_n C0.1 C0.2.1 dL_entitledWeight_3 rfl (lv_at hl 1 rfl) ?_
  refine kx_i C1 hI (qx_V (As := [.int x1]) C0 C1 hI 0 (c_X9_entitledWeight l hl0 g (xb g r T ++ (outs g q1 q2 o d ++ Y)) r b H.size n M x1 hf) w_1109 w_1110 w_1111 w_119 w_1112 ⟨rfl, rfl⟩ hd_X9_entitledWeight ⟨Nat.le_of_ble_eq_true rfl, Nat.le_of_ble_eq_true rfl⟩ (kdlt0 (rfl : kdI 0 = 0)) (shI_0 (rfl : kdI 0 = 0) _) rfl rfl rfl hl.1 rfl (Nat.le_of_ble_eq_true rfl) dL_entitledWeight_4 ⟨Nat.le_of_ble_eq_true rfl, Nat.le_of_ble_eq_true rfl⟩) (fun k H locs ce q9 e1 hI g1 g2 g3 => ?_) (fun v H locs e1 hI => ?_)
  · rcases hk k e1 with e
    · subst e
      refine vx_catch C0.2.2.2.1 (tableOf []) ⟨0, 9, 12, 13⟩ (tableOf []) hTB (fun z hz => nomatch hz) (by decide) (by decide) (C0.2.2.2.2 _ w_749) (va_Nw.use rfl (C1.2.2.2.2.2.1 _ (List.mem_of_getElem? (i := 0) rfl))) g1 g2 g3 ?_
      refine lv_astore_n (lv' := [(3, .ref q9), (0, .ref (b 0)), (1, .int x1), (2, .ref q1)]) C0.1 C0.2.1 dL_entitledWeight_12 rfl hl (by decide) rfl (fun ls hl => ?_)
      refine lv_iconst (v := 1) C0.1 C0.2.1 dL_entitledWeight_13 (by decide) ?_
      exact e_h C0 rfl hI hr hlocks (by rw [cxl e1]; decide) (by rw [oul e1]) rfl dL_entitledWeight_14
  · refine lv_i2l C0.1 C0.2.1 dL_entitledWeight_7 rfl ?_
    refine o_last (W1 := xb g r T) 2 rfl C0 C1 hI dL_entitledWeight_8 (fun H locs eA C1 hI => ?_)
    refine lv_goto (tgt := 15) C0.1 C0.2.1 dL_entitledWeight_9 (by decide) ?_
    refine lv_iconst (v := 0) C0.1 C0.2.1 dL_entitledWeight_15 (by decide) ?_
    exact e_h C0 eA hI hr hlocks (cxr e1).symm (by rw [our (f := ciI) e1]) rfl dL_entitledWeight_16

theorem hd_L_croak : yL_croak.cls ≠ "java/lang/invoke/MethodHandle" ∧ yL_croak.cls ≠ "java/lang/invoke/VarHandle" ∧ (parseMethodDescriptor yL_croak.desc).map (fun d => d.parameters.length) = some 6 := ⟨by decide +kernel, by decide +kernel, by decide +kernel⟩
set_option maxHeartbeats 4000000 in
theorem h_croak (l : Launch) (hl0 : l.stackTraces = false) (g : GG) (Y : va_W) (r b : Nat → Nat) (sz n : Nat) (T M : Mem) (q1 q2 : Nat) (o : Nat → Int64) (d : Nat → UInt64) (x1 : Int32) (x2 : Int32) (x3 : Int32) (x4 : Int32) {q0 : RX Int32} {M' : Mem} (hf : F_X9_croak n x1 x2 x3 x4 M = some (q0, M')) (hk : ∀ k, q0 = .inl k → k = 2 ∨ k = 1 ∨ k = 0 ∨ k = 4) : Met l yL_croak (.codeWith yL_croak method_28_code 7 (some .int) [(0, 14, 17, 13), (0, 14, 21, 15), (0, 14, 25, 17), (0, 14, 29, 56)] :: LWg) (rmD 11 1 6) (va_Pc [.ref (b 0), .int x1, .int x2, .int x3, .int x4, .ref q1] (PreP g (xb g r T ++ (outs g q1 q2 o d ++ Y)) 372 (shI g r b) b sz M)) (va_Qi (fun res (_ : Unit) => res = cx [2, 1, 0, 4] q0) (fun _ t => PoP g (xb g r T ++ (outs g q1 q2 (ou ciI o q0) d ++ Y)) 372 (shI g r b) b M' t) (AA (xb g r T ++ (outs g q1 q2 o d ++ Y)) b 372 sz)) 1 6 (AA (xb g r T ++ (outs g q1 q2 o d ++ Y)) b 372 sz) := by
  refine metH_go (by decide +kernel) rfl (Nat.le_of_ble_eq_true rfl) ?_
  intro p e s m below meth c ls H locs C0 C1 hr hlocks hTB hsz hl hI
  subst hsz
  have hl : lv_has ls 7 [(0, .ref (b 0)), (1, .int x1), (2, .int x2), (3, .int x3), (4, .int x4), (5, .ref q1)] := hl
  refine lv_aload C0.1 C0.2.1 dL_croak_0 (lv_at hl 5 rfl) ?_
  refine lv_iconst (v := 0) C0.1 C0.2.1 dL_croak_2 (by decide) ?_
  refine lv_aload_n C0.1 C0.2.1 dL_croak_3 rfl (lv_at hl 0 rfl) ?_
  refine lv_iload_n C0.1 C0.2.1 dL_croak_4 rfl (lv_at hl 1 rfl) ?_
  refine lv_iload_n C0.1 C0.2.1 dL_croak_5 rfl (lv_at hl 2 rfl) ?_
  refine lv_iload_n C0.1 C0.2.1 dL_croak_6 rfl (lv_at hl 3 rfl) ?_
  refine lv_iload C0.1 C0.2.1 dL_croak_7 (lv_at hl 4 rfl) ?_
  refine kx_i C1 hI (qx_V (As := [.int x1, .int x2, .int x3, .int x4]) C0 C1 hI 0 (c_X9_croak l hl0 g (xb g r T ++ (outs g q1 q2 o d ++ Y)) r b H.size n M x1 x2 x3 x4 hf) w_1117 w_1118 w_1119 w_119 w_1120 ⟨rfl, rfl⟩ hd_X9_croak ⟨Nat.le_of_ble_eq_true rfl, Nat.le_of_ble_eq_true rfl⟩ (kdlt0 (rfl : kdI 0 = 0)) (shI_0 (rfl : kdI 0 = 0) _) rfl rfl rfl hl.1 rfl (Nat.le_of_ble_eq_true rfl) dL_croak_9 ⟨Nat.le_of_ble_eq_true rfl, Nat.le_of_ble_eq_true rfl⟩) (fun k H locs ce q9 e1 hI g1 g2 g3 => ?_) (fun v H locs e1 hI => ?_)
  · rcases hk k e1 with e | e | e | e
    · subst e
      refine vx_catch C0.2.2.2.1 (tableOf []) ⟨0, 14, 17, 13⟩ (tableOf [(0, 14, 21, 15), (0, 14, 25, 17), (0, 14, 29, 56)]) hTB (fun z hz => nomatch hz) (by decide) (by decide) (C0.2.2.2.2 _ w_749) (va_Nw.use rfl (C1.2.2.2.2.2.1 _ (List.mem_of_getElem? (i := 0) rfl))) g1 g2 g3 ?_
      refine lv_astore (lv' := [(6, .ref q9), (0, .ref (b 0)), (1, .int x1), (2, .int x2), (3, .int x3), (4, .int x4), (5, .ref q1)]) C0.1 C0.2.1 dL_croak_17 hl (by decide) rfl (fun ls hl => ?_)
      refine lv_iconst (v := 1) C0.1 C0.2.1 dL_croak_19 (by decide) ?_
      exact e_h C0 rfl hI hr hlocks (by rw [cxl e1]; decide) (by rw [oul e1]) rfl dL_croak_20
    · subst e
      refine vx_catch C0.2.2.2.1 (tableOf [(0, 14, 17, 13)]) ⟨0, 14, 21, 15⟩ (tableOf [(0, 14, 25, 17), (0, 14, 29, 56)]) hTB (List.forall_mem_cons.mpr ⟨Or.inr ⟨by decide, "java/lang/IndexOutOfBoundsException", C0.2.2.2.2 _ w_749, C1.2.2.2.2.2.2.1 _ (List.mem_of_getElem? (i := 0) rfl)⟩, fun _ h => absurd h List.not_mem_nil⟩) (by decide) (by decide) (C0.2.2.2.2 _ w_770) (va_Nw.use rfl (C1.2.2.2.2.2.1 _ (List.mem_of_getElem? (i := 1) rfl))) g1 g2 g3 ?_
      refine lv_astore (lv' := [(6, .ref q9), (0, .ref (b 0)), (1, .int x1), (2, .int x2), (3, .int x3), (4, .int x4), (5, .ref q1)]) C0.1 C0.2.1 dL_croak_21 hl (by decide) rfl (fun ls hl => ?_)
      refine lv_iconst (v := 2) C0.1 C0.2.1 dL_croak_23 (by decide) ?_
      exact e_h C0 rfl hI hr hlocks (by rw [cxl e1]; decide) (by rw [oul e1]) rfl dL_croak_24
    · subst e
      refine vx_catch C0.2.2.2.1 (tableOf [(0, 14, 17, 13), (0, 14, 21, 15)]) ⟨0, 14, 25, 17⟩ (tableOf [(0, 14, 29, 56)]) hTB (List.forall_mem_cons.mpr ⟨Or.inr ⟨by decide, "java/lang/IndexOutOfBoundsException", C0.2.2.2.2 _ w_749, C1.2.2.2.2.2.2.1 _ (List.mem_of_getElem? (i := 1) rfl)⟩, List.forall_mem_cons.mpr ⟨Or.inr ⟨by decide, "java/lang/IllegalArgumentException", C0.2.2.2.2 _ w_770, C1.2.2.2.2.2.2.1 _ (List.mem_of_getElem? (i := 6) rfl)⟩, fun _ h => absurd h List.not_mem_nil⟩⟩) (by decide) (by decide) (C0.2.2.2.2 _ w_771) (va_Nw.use rfl (C1.2.2.2.2.2.1 _ (List.mem_of_getElem? (i := 2) rfl))) g1 g2 g3 ?_
      refine lv_astore (lv' := [(6, .ref q9), (0, .ref (b 0)), (1, .int x1), (2, .int x2), (3, .int x3), (4, .int x4), (5, .ref q1)]) C0.1 C0.2.1 dL_croak_25 hl (by decide) rfl (fun ls hl => ?_)
      refine lv_iconst (v := 3) C0.1 C0.2.1 dL_croak_27 (by decide) ?_
      exact e_h C0 rfl hI hr hlocks (by rw [cxl e1]; decide) (by rw [oul e1]) rfl dL_croak_28
    · subst e
      refine vx_catch C0.2.2.2.1 (tableOf [(0, 14, 17, 13), (0, 14, 21, 15), (0, 14, 25, 17)]) ⟨0, 14, 29, 56⟩ (tableOf []) hTB (List.forall_mem_cons.mpr ⟨Or.inr ⟨by decide, "java/lang/IndexOutOfBoundsException", C0.2.2.2.2 _ w_749, C1.2.2.2.2.2.2.1 _ (List.mem_of_getElem? (i := 2) rfl)⟩, List.forall_mem_cons.mpr ⟨Or.inr ⟨by decide, "java/lang/IllegalArgumentException", C0.2.2.2.2 _ w_770, C1.2.2.2.2.2.2.1 _ (List.mem_of_getElem? (i := 7) rfl)⟩, List.forall_mem_cons.mpr ⟨Or.inr ⟨by decide, "java/lang/IllegalStateException", C0.2.2.2.2 _ w_771, C1.2.2.2.2.2.2.1 _ (List.mem_of_getElem? (i := 12) rfl)⟩, fun _ h => absurd h List.not_mem_nil⟩⟩⟩) (by decide) (by decide) (C0.2.2.2.2 _ w_954) (va_Nw.use rfl (C1.2.2.2.2.2.1 _ (List.mem_of_getElem? (i := 3) rfl))) g1 g2 g3 ?_
      refine lv_astore (lv' := [(6, .ref q9), (0, .ref (b 0)), (1, .int x1), (2, .int x2), (3, .int x3), (4, .int x4), (5, .ref q1)]) C0.1 C0.2.1 dL_croak_29 hl (by decide) rfl (fun ls hl => ?_)
      refine lv_iconst (v := 4) C0.1 C0.2.1 dL_croak_31 (by decide) ?_
      exact e_h C0 rfl hI hr hlocks (by rw [cxl e1]; decide) (by rw [oul e1]) rfl dL_croak_32
  · refine lv_i2l C0.1 C0.2.1 dL_croak_12 rfl ?_
    refine o_last (W1 := xb g r T) 2 rfl C0 C1 hI dL_croak_13 (fun H locs eA C1 hI => ?_)
    refine lv_goto (tgt := 33) C0.1 C0.2.1 dL_croak_14 (by decide) ?_
    refine lv_iconst (v := 0) C0.1 C0.2.1 dL_croak_33 (by decide) ?_
    exact e_h C0 eA hI hr hlocks (cxr e1).symm (by rw [our (f := ciI) e1]) rfl dL_croak_34

theorem hd_L_decide : yL_decide.cls ≠ "java/lang/invoke/MethodHandle" ∧ yL_decide.cls ≠ "java/lang/invoke/VarHandle" ∧ (parseMethodDescriptor yL_decide.desc).map (fun d => d.parameters.length) = some 3 := ⟨by decide +kernel, by decide +kernel, by decide +kernel⟩
set_option maxHeartbeats 4000000 in
theorem h_decide (l : Launch) (hl0 : l.stackTraces = false) (g : GG) (Y : va_W) (r b : Nat → Nat) (sz n : Nat) (T M : Mem) (q1 q2 : Nat) (o : Nat → Int64) (d : Nat → UInt64) (x1 : Int32) {q0 : RX Int32} {M' : Mem} (hf : F_X9_decide n x1 M = some (q0, M')) (hk : ∀ k, q0 = .inl k → k = 2 ∨ k = 0) : Met l yL_decide (.codeWith yL_decide method_29_code 4 (some .int) [(0, 16, 19, 13), (0, 16, 22, 17)] :: LWg) (rmD 11 1 6) (va_Pc [.ref (b 0), .int x1, .ref q1] (PreP g (xb g r T ++ (outs g q1 q2 o d ++ Y)) 372 (shI g r b) b sz M)) (va_Qi (fun res (_ : Unit) => res = cx [2, 0] q0) (fun _ t => PoP g (xb g r T ++ (outs g q1 q2 (ou ciZ o q0) d ++ Y)) 372 (shI g r b) b M' t) (AA (xb g r T ++ (outs g q1 q2 o d ++ Y)) b 372 sz)) 1 6 (AA (xb g r T ++ (outs g q1 q2 o d ++ Y)) b 372 sz) := by
  refine metH_go (by decide +kernel) rfl (Nat.le_of_ble_eq_true rfl) ?_
  intro p e s m below meth c ls H locs C0 C1 hr hlocks hTB hsz hl hI
  subst hsz
  have hl : lv_has ls 4 [(0, .ref (b 0)), (1, .int x1), (2, .ref q1)] := hl
  refine lv_aload_n C0.1 C0.2.1 dL_decide_0 rfl (lv_at hl 2 rfl) ?_
  refine lv_iconst (v := 0) C0.1 C0.2.1 dL_decide_1 (by decide) ?_
  refine lv_aload_n C0.1 C0.2.1 dL_decide_2 rfl (lv_at hl 0 rfl) ?_
  refine lv_iload_n C0.1 C0.2.1 dL_decide_3 rfl (lv_at hl 1 rfl) ?_
  refine kx_i C1 hI (qx_V (As := [.int x1]) C0 C1 hI 0 (c_X9_decide l hl0 g (xb g r T ++ (outs g q1 q2 o d ++ Y)) r b H.size n M x1 hf) w_1153 w_1154 w_1155 w_119 w_1156 ⟨rfl, rfl⟩ hd_X9_decide ⟨Nat.le_of_ble_eq_true rfl, Nat.le_of_ble_eq_true rfl⟩ (kdlt0 (rfl : kdI 0 = 0)) (shI_0 (rfl : kdI 0 = 0) _) rfl rfl rfl hl.1 rfl (Nat.le_of_ble_eq_true rfl) dL_decide_4 ⟨Nat.le_of_ble_eq_true rfl, Nat.le_of_ble_eq_true rfl⟩) (fun k H locs ce q9 e1 hI g1 g2 g3 => ?_) (fun v H locs e1 hI => ?_)
  · rcases hk k e1 with e | e
    · subst e
      refine vx_catch C0.2.2.2.1 (tableOf []) ⟨0, 16, 19, 13⟩ (tableOf [(0, 16, 22, 17)]) hTB (fun z hz => nomatch hz) (by decide) (by decide) (C0.2.2.2.2 _ w_749) (va_Nw.use rfl (C1.2.2.2.2.2.1 _ (List.mem_of_getElem? (i := 0) rfl))) g1 g2 g3 ?_
      refine lv_astore_n (lv' := [(3, .ref q9), (0, .ref (b 0)), (1, .int x1), (2, .ref q1)]) C0.1 C0.2.1 dL_decide_19 rfl hl (by decide) rfl (fun ls hl => ?_)
      refine lv_iconst (v := 1) C0.1 C0.2.1 dL_decide_20 (by decide) ?_
      exact e_h C0 rfl hI hr hlocks (by rw [cxl e1]; decide) (by rw [oul e1]) rfl dL_decide_21
    · subst e
      refine vx_catch C0.2.2.2.1 (tableOf [(0, 16, 19, 13)]) ⟨0, 16, 22, 17⟩ (tableOf []) hTB (List.forall_mem_cons.mpr ⟨Or.inr ⟨by decide, "java/lang/IndexOutOfBoundsException", C0.2.2.2.2 _ w_749, C1.2.2.2.2.2.2.1 _ (List.mem_of_getElem? (i := 1) rfl)⟩, fun _ h => absurd h List.not_mem_nil⟩) (by decide) (by decide) (C0.2.2.2.2 _ w_771) (va_Nw.use rfl (C1.2.2.2.2.2.1 _ (List.mem_of_getElem? (i := 2) rfl))) g1 g2 g3 ?_
      refine lv_astore_n (lv' := [(3, .ref q9), (0, .ref (b 0)), (1, .int x1), (2, .ref q1)]) C0.1 C0.2.1 dL_decide_22 rfl hl (by decide) rfl (fun ls hl => ?_)
      refine lv_iconst (v := 2) C0.1 C0.2.1 dL_decide_23 (by decide) ?_
      exact e_h C0 rfl hI hr hlocks (by rw [cxl e1]; decide) (by rw [oul e1]) rfl dL_decide_24
  · refine lv_if_eq (tgt := 14) C0.1 C0.2.1 dL_decide_7 (by decide) (fun cz => ?_) (fun cz => ?_)
    · have e5 : ciZ v = 0 := if_pos cz
      refine lv_lconst (v := 0) C0.1 C0.2.1 dL_decide_14 (by decide) ?_
      refine o_last (W1 := xb g r T) 2 rfl C0 C1 hI dL_decide_15 (fun H locs eA C1 hI => ?_)
      refine lv_goto (tgt := 25) C0.1 C0.2.1 dL_decide_16 (by decide) ?_
      refine lv_iconst (v := 0) C0.1 C0.2.1 dL_decide_25 (by decide) ?_
      exact e_h C0 eA hI hr hlocks (cxr e1).symm (by rw [our (f := ciZ) e1, e5]) rfl dL_decide_26
    · have e5 : ciZ v = 1 := if_neg cz
      refine lv_lconst (v := 1) C0.1 C0.2.1 dL_decide_10 (by decide) ?_
      refine lv_goto (tgt := 15) C0.1 C0.2.1 dL_decide_11 (by decide) ?_
      refine o_last (W1 := xb g r T) 2 rfl C0 C1 hI dL_decide_15 (fun H locs eA C1 hI => ?_)
      refine lv_goto (tgt := 25) C0.1 C0.2.1 dL_decide_16 (by decide) ?_
      refine lv_iconst (v := 0) C0.1 C0.2.1 dL_decide_25 (by decide) ?_
      exact e_h C0 eA hI hr hlocks (cxr e1).symm (by rw [our (f := ciZ) e1, e5]) rfl dL_decide_26

theorem hd_L_isDecided : yL_isDecided.cls ≠ "java/lang/invoke/MethodHandle" ∧ yL_isDecided.cls ≠ "java/lang/invoke/VarHandle" ∧ (parseMethodDescriptor yL_isDecided.desc).map (fun d => d.parameters.length) = some 3 := ⟨by decide +kernel, by decide +kernel, by decide +kernel⟩
set_option maxHeartbeats 4000000 in
theorem h_isDecided (l : Launch) (hl0 : l.stackTraces = false) (g : GG) (Y : va_W) (r b : Nat → Nat) (sz n : Nat) (T M : Mem) (q1 q2 : Nat) (o : Nat → Int64) (d : Nat → UInt64) (x1 : Int32) {q0 : RX Int32} (hf : F_X9_isDecided n x1 M = some q0) (hk : ∀ k, q0 = .inl k → k = 2) : Met l yL_isDecided (.codeWith yL_isDecided method_30_code 4 (some .int) [(0, 16, 19, 13)] :: LWg) (rmD 12 1 6) (va_Pc [.ref (b 0), .int x1, .ref q1] (PreP g (xb g r T ++ (outs g q1 q2 o d ++ Y)) 372 (shI g r b) b sz M)) (va_Qi (fun res (_ : Unit) => res = cx [2] q0) (fun _ t => PoP g (xb g r T ++ (outs g q1 q2 (ou ciZ o q0) d ++ Y)) 372 (shI g r b) b M t) (AA (xb g r T ++ (outs g q1 q2 o d ++ Y)) b 372 sz)) 1 6 (AA (xb g r T ++ (outs g q1 q2 o d ++ Y)) b 372 sz) := by
  refine metH_go (by decide +kernel) rfl (Nat.le_of_ble_eq_true rfl) ?_
  intro p e s m below meth c ls H locs C0 C1 hr hlocks hTB hsz hl hI
  subst hsz
  have hl : lv_has ls 4 [(0, .ref (b 0)), (1, .int x1), (2, .ref q1)] := hl
  refine lv_aload_n C0.1 C0.2.1 dL_isDecided_0 rfl (lv_at hl 2 rfl) ?_
  refine lv_iconst (v := 0) C0.1 C0.2.1 dL_isDecided_1 (by decide) ?_
  refine lv_aload_n C0.1 C0.2.1 dL_isDecided_2 rfl (lv_at hl 0 rfl) ?_
  refine lv_iload_n C0.1 C0.2.1 dL_isDecided_3 rfl (lv_at hl 1 rfl) ?_
  refine kx_i C1 hI (qx_V (As := [.int x1]) C0 C1 hI 0 (c_X9_isDecided l hl0 g (xb g r T ++ (outs g q1 q2 o d ++ Y)) r b H.size n M x1 hf) w_1165 w_1166 w_1167 w_119 w_1168 ⟨rfl, rfl⟩ hd_X9_isDecided ⟨Nat.le_of_ble_eq_true rfl, Nat.le_of_ble_eq_true rfl⟩ (kdlt0 (rfl : kdI 0 = 0)) (shI_0 (rfl : kdI 0 = 0) _) rfl rfl rfl hl.1 rfl (Nat.le_of_ble_eq_true rfl) dL_isDecided_4 ⟨Nat.le_of_ble_eq_true rfl, Nat.le_of_ble_eq_true rfl⟩) (fun k H locs ce q9 e1 hI g1 g2 g3 => ?_) (fun v H locs e1 hI => ?_)
  · rcases hk k e1 with e
    · subst e
      refine vx_catch C0.2.2.2.1 (tableOf []) ⟨0, 16, 19, 13⟩ (tableOf []) hTB (fun z hz => nomatch hz) (by decide) (by decide) (C0.2.2.2.2 _ w_749) (va_Nw.use rfl (C1.2.2.2.2.2.1 _ (List.mem_of_getElem? (i := 0) rfl))) g1 g2 g3 ?_
      refine lv_astore_n (lv' := [(3, .ref q9), (0, .ref (b 0)), (1, .int x1), (2, .ref q1)]) C0.1 C0.2.1 dL_isDecided_19 rfl hl (by decide) rfl (fun ls hl => ?_)
      refine lv_iconst (v := 1) C0.1 C0.2.1 dL_isDecided_20 (by decide) ?_
      exact e_h C0 rfl hI hr hlocks (by rw [cxl e1]; decide) (by rw [oul e1]) rfl dL_isDecided_21
  · refine lv_if_eq (tgt := 14) C0.1 C0.2.1 dL_isDecided_7 (by decide) (fun cz => ?_) (fun cz => ?_)
    · have e5 : ciZ v = 0 := if_pos cz
      refine lv_lconst (v := 0) C0.1 C0.2.1 dL_isDecided_14 (by decide) ?_
      refine o_last (W1 := xb g r T) 2 rfl C0 C1 hI dL_isDecided_15 (fun H locs eA C1 hI => ?_)
      refine lv_goto (tgt := 22) C0.1 C0.2.1 dL_isDecided_16 (by decide) ?_
      refine lv_iconst (v := 0) C0.1 C0.2.1 dL_isDecided_22 (by decide) ?_
      exact e_h C0 eA hI hr hlocks (cxr e1).symm (by rw [our (f := ciZ) e1, e5]) rfl dL_isDecided_23
    · have e5 : ciZ v = 1 := if_neg cz
      refine lv_lconst (v := 1) C0.1 C0.2.1 dL_isDecided_10 (by decide) ?_
      refine lv_goto (tgt := 15) C0.1 C0.2.1 dL_isDecided_11 (by decide) ?_
      refine o_last (W1 := xb g r T) 2 rfl C0 C1 hI dL_isDecided_15 (fun H locs eA C1 hI => ?_)
      refine lv_goto (tgt := 22) C0.1 C0.2.1 dL_isDecided_16 (by decide) ?_
      refine lv_iconst (v := 0) C0.1 C0.2.1 dL_isDecided_22 (by decide) ?_
      exact e_h C0 eA hI hr hlocks (cxr e1).symm (by rw [our (f := ciZ) e1, e5]) rfl dL_isDecided_23

theorem hd_L_isAdopted : yL_isAdopted.cls ≠ "java/lang/invoke/MethodHandle" ∧ yL_isAdopted.cls ≠ "java/lang/invoke/VarHandle" ∧ (parseMethodDescriptor yL_isAdopted.desc).map (fun d => d.parameters.length) = some 3 := ⟨by decide +kernel, by decide +kernel, by decide +kernel⟩
set_option maxHeartbeats 4000000 in
theorem h_isAdopted (l : Launch) (hl0 : l.stackTraces = false) (g : GG) (Y : va_W) (r b : Nat → Nat) (sz n : Nat) (T M : Mem) (q1 q2 : Nat) (o : Nat → Int64) (d : Nat → UInt64) (x1 : Int32) {q0 : RX Int32} (hf : F_X9_isAdopted n x1 M = some q0) (hk : ∀ k, q0 = .inl k → k = 2) : Met l yL_isAdopted (.codeWith yL_isAdopted method_31_code 4 (some .int) [(0, 16, 19, 13)] :: LWg) (rmD 12 1 6) (va_Pc [.ref (b 0), .int x1, .ref q1] (PreP g (xb g r T ++ (outs g q1 q2 o d ++ Y)) 372 (shI g r b) b sz M)) (va_Qi (fun res (_ : Unit) => res = cx [2] q0) (fun _ t => PoP g (xb g r T ++ (outs g q1 q2 (ou ciZ o q0) d ++ Y)) 372 (shI g r b) b M t) (AA (xb g r T ++ (outs g q1 q2 o d ++ Y)) b 372 sz)) 1 6 (AA (xb g r T ++ (outs g q1 q2 o d ++ Y)) b 372 sz) := by
  refine metH_go (by decide +kernel) rfl (Nat.le_of_ble_eq_true rfl) ?_
  intro p e s m below meth c ls H locs C0 C1 hr hlocks hTB hsz hl hI
  subst hsz
  have hl : lv_has ls 4 [(0, .ref (b 0)), (1, .int x1), (2, .ref q1)] := hl
  refine lv_aload_n C0.1 C0.2.1 dL_isAdopted_0 rfl (lv_at hl 2 rfl) ?_
  refine lv_iconst (v := 0) C0.1 C0.2.1 dL_isAdopted_1 (by decide) ?_
  refine lv_aload_n C0.1 C0.2.1 dL_isAdopted_2 rfl (lv_at hl 0 rfl) ?_
  refine lv_iload_n C0.1 C0.2.1 dL_isAdopted_3 rfl (lv_at hl 1 rfl) ?_
  refine kx_i C1 hI (qx_V (As := [.int x1]) C0 C1 hI 0 (c_X9_isAdopted l hl0 g (xb g r T ++ (outs g q1 q2 o d ++ Y)) r b H.size n M x1 hf) w_1172 w_1173 w_1174 w_119 w_1175 ⟨rfl, rfl⟩ hd_X9_isAdopted ⟨Nat.le_of_ble_eq_true rfl, Nat.le_of_ble_eq_true rfl⟩ (kdlt0 (rfl : kdI 0 = 0)) (shI_0 (rfl : kdI 0 = 0) _) rfl rfl rfl hl.1 rfl (Nat.le_of_ble_eq_true rfl) dL_isAdopted_4 ⟨Nat.le_of_ble_eq_true rfl, Nat.le_of_ble_eq_true rfl⟩) (fun k H locs ce q9 e1 hI g1 g2 g3 => ?_) (fun v H locs e1 hI => ?_)
  · rcases hk k e1 with e
    · subst e
      refine vx_catch C0.2.2.2.1 (tableOf []) ⟨0, 16, 19, 13⟩ (tableOf []) hTB (fun z hz => nomatch hz) (by decide) (by decide) (C0.2.2.2.2 _ w_749) (va_Nw.use rfl (C1.2.2.2.2.2.1 _ (List.mem_of_getElem? (i := 0) rfl))) g1 g2 g3 ?_
      refine lv_astore_n (lv' := [(3, .ref q9), (0, .ref (b 0)), (1, .int x1), (2, .ref q1)]) C0.1 C0.2.1 dL_isAdopted_19 rfl hl (by decide) rfl (fun ls hl => ?_)
      refine lv_iconst (v := 1) C0.1 C0.2.1 dL_isAdopted_20 (by decide) ?_
      exact e_h C0 rfl hI hr hlocks (by rw [cxl e1]; decide) (by rw [oul e1]) rfl dL_isAdopted_21
  · refine lv_if_eq (tgt := 14) C0.1 C0.2.1 dL_isAdopted_7 (by decide) (fun cz => ?_) (fun cz => ?_)
    · have e5 : ciZ v = 0 := if_pos cz
      refine lv_lconst (v := 0) C0.1 C0.2.1 dL_isAdopted_14 (by decide) ?_
      refine o_last (W1 := xb g r T) 2 rfl C0 C1 hI dL_isAdopted_15 (fun H locs eA C1 hI => ?_)
      refine lv_goto (tgt := 22) C0.1 C0.2.1 dL_isAdopted_16 (by decide) ?_
      refine lv_iconst (v := 0) C0.1 C0.2.1 dL_isAdopted_22 (by decide) ?_
      exact e_h C0 eA hI hr hlocks (cxr e1).symm (by rw [our (f := ciZ) e1, e5]) rfl dL_isAdopted_23
    · have e5 : ciZ v = 1 := if_neg cz
      refine lv_lconst (v := 1) C0.1 C0.2.1 dL_isAdopted_10 (by decide) ?_
      refine lv_goto (tgt := 15) C0.1 C0.2.1 dL_isAdopted_11 (by decide) ?_
      refine o_last (W1 := xb g r T) 2 rfl C0 C1 hI dL_isAdopted_15 (fun H locs eA C1 hI => ?_)
      refine lv_goto (tgt := 22) C0.1 C0.2.1 dL_isAdopted_16 (by decide) ?_
      refine lv_iconst (v := 0) C0.1 C0.2.1 dL_isAdopted_22 (by decide) ?_
      exact e_h C0 eA hI hr hlocks (cxr e1).symm (by rw [our (f := ciZ) e1, e5]) rfl dL_isAdopted_23

theorem hd_L_croaksFor : yL_croaksFor.cls ≠ "java/lang/invoke/MethodHandle" ∧ yL_croaksFor.cls ≠ "java/lang/invoke/VarHandle" ∧ (parseMethodDescriptor yL_croaksFor.desc).map (fun d => d.parameters.length) = some 3 := ⟨by decide +kernel, by decide +kernel, by decide +kernel⟩
set_option maxHeartbeats 4000000 in
theorem h_croaksFor (l : Launch) (hl0 : l.stackTraces = false) (g : GG) (Y : va_W) (r b : Nat → Nat) (sz n : Nat) (T M : Mem) (q1 q2 : Nat) (o : Nat → Int64) (d : Nat → UInt64) (x1 : Int32) {q0 : RX Int32} (hf : F_X9_croaksFor n x1 M = some q0) (hk : ∀ k, q0 = .inl k → k = 2) : Met l yL_croaksFor (.codeWith yL_croaksFor method_32_code 4 (some .int) [(0, 9, 12, 13)] :: LWg) (rmD 12 1 6) (va_Pc [.ref (b 0), .int x1, .ref q1] (PreP g (xb g r T ++ (outs g q1 q2 o d ++ Y)) 372 (shI g r b) b sz M)) (va_Qi (fun res (_ : Unit) => res = cx [2] q0) (fun _ t => PoP g (xb g r T ++ (outs g q1 q2 (ou ciI o q0) d ++ Y)) 372 (shI g r b) b M t) (AA (xb g r T ++ (outs g q1 q2 o d ++ Y)) b 372 sz)) 1 6 (AA (xb g r T ++ (outs g q1 q2 o d ++ Y)) b 372 sz) := by
  refine metH_go (by decide +kernel) rfl (Nat.le_of_ble_eq_true rfl) ?_
  intro p e s m below meth c ls H locs C0 C1 hr hlocks hTB hsz hl hI
  subst hsz
  have hl : lv_has ls 4 [(0, .ref (b 0)), (1, .int x1), (2, .ref q1)] := hl
  refine lv_aload_n C0.1 C0.2.1 dL_croaksFor_0 rfl (lv_at hl 2 rfl) ?_
  refine lv_iconst (v := 0) C0.1 C0.2.1 dL_croaksFor_1 (by decide) ?_
  refine lv_aload_n C0.1 C0.2.1 dL_croaksFor_2 rfl (lv_at hl 0 rfl) ?_
  refine lv_iload_n C0.1 C0.2.1 dL_croaksFor_3 rfl (lv_at hl 1 rfl) ?_
  refine kx_i C1 hI (qx_V (As := [.int x1]) C0 C1 hI 0 (c_X9_croaksFor l hl0 g (xb g r T ++ (outs g q1 q2 o d ++ Y)) r b H.size n M x1 hf) w_1179 w_705 w_706 w_119 w_707 ⟨rfl, rfl⟩ hd_X9_croaksFor ⟨Nat.le_of_ble_eq_true rfl, Nat.le_of_ble_eq_true rfl⟩ (kdlt0 (rfl : kdI 0 = 0)) (shI_0 (rfl : kdI 0 = 0) _) rfl rfl rfl hl.1 rfl (Nat.le_of_ble_eq_true rfl) dL_croaksFor_4 ⟨Nat.le_of_ble_eq_true rfl, Nat.le_of_ble_eq_true rfl⟩) (fun k H locs ce q9 e1 hI g1 g2 g3 => ?_) (fun v H locs e1 hI => ?_)
  · rcases hk k e1 with e
    · subst e
      refine vx_catch C0.2.2.2.1 (tableOf []) ⟨0, 9, 12, 13⟩ (tableOf []) hTB (fun z hz => nomatch hz) (by decide) (by decide) (C0.2.2.2.2 _ w_749) (va_Nw.use rfl (C1.2.2.2.2.2.1 _ (List.mem_of_getElem? (i := 0) rfl))) g1 g2 g3 ?_
      refine lv_astore_n (lv' := [(3, .ref q9), (0, .ref (b 0)), (1, .int x1), (2, .ref q1)]) C0.1 C0.2.1 dL_croaksFor_12 rfl hl (by decide) rfl (fun ls hl => ?_)
      refine lv_iconst (v := 1) C0.1 C0.2.1 dL_croaksFor_13 (by decide) ?_
      exact e_h C0 rfl hI hr hlocks (by rw [cxl e1]; decide) (by rw [oul e1]) rfl dL_croaksFor_14
  · refine lv_i2l C0.1 C0.2.1 dL_croaksFor_7 rfl ?_
    refine o_last (W1 := xb g r T) 2 rfl C0 C1 hI dL_croaksFor_8 (fun H locs eA C1 hI => ?_)
    refine lv_goto (tgt := 15) C0.1 C0.2.1 dL_croaksFor_9 (by decide) ?_
    refine lv_iconst (v := 0) C0.1 C0.2.1 dL_croaksFor_15 (by decide) ?_
    exact e_h C0 eA hI hr hlocks (cxr e1).symm (by rw [our (f := ciI) e1]) rfl dL_croaksFor_16

theorem hd_L_croaksForByPonds : yL_croaksForByPonds.cls ≠ "java/lang/invoke/MethodHandle" ∧ yL_croaksForByPonds.cls ≠ "java/lang/invoke/VarHandle" ∧ (parseMethodDescriptor yL_croaksForByPonds.desc).map (fun d => d.parameters.length) = some 3 := ⟨by decide +kernel, by decide +kernel, by decide +kernel⟩
set_option maxHeartbeats 4000000 in
theorem h_croaksForByPonds (l : Launch) (hl0 : l.stackTraces = false) (g : GG) (Y : va_W) (r b : Nat → Nat) (sz n : Nat) (T M : Mem) (q1 q2 : Nat) (o : Nat → Int64) (d : Nat → UInt64) (x1 : Int32) {q0 : RX Int32} (hf : F_X9_croaksForByPonds n x1 M = some q0) (hk : ∀ k, q0 = .inl k → k = 2) : Met l yL_croaksForByPonds (.codeWith yL_croaksForByPonds method_33_code 4 (some .int) [(0, 9, 12, 13)] :: LWg) (rmD 12 1 6) (va_Pc [.ref (b 0), .int x1, .ref q1] (PreP g (xb g r T ++ (outs g q1 q2 o d ++ Y)) 372 (shI g r b) b sz M)) (va_Qi (fun res (_ : Unit) => res = cx [2] q0) (fun _ t => PoP g (xb g r T ++ (outs g q1 q2 (ou ciI o q0) d ++ Y)) 372 (shI g r b) b M t) (AA (xb g r T ++ (outs g q1 q2 o d ++ Y)) b 372 sz)) 1 6 (AA (xb g r T ++ (outs g q1 q2 o d ++ Y)) b 372 sz) := by
  refine metH_go (by decide +kernel) rfl (Nat.le_of_ble_eq_true rfl) ?_
  intro p e s m below meth c ls H locs C0 C1 hr hlocks hTB hsz hl hI
  subst hsz
  have hl : lv_has ls 4 [(0, .ref (b 0)), (1, .int x1), (2, .ref q1)] := hl
  refine lv_aload_n C0.1 C0.2.1 dL_croaksForByPonds_0 rfl (lv_at hl 2 rfl) ?_
  refine lv_iconst (v := 0) C0.1 C0.2.1 dL_croaksForByPonds_1 (by decide) ?_
  refine lv_aload_n C0.1 C0.2.1 dL_croaksForByPonds_2 rfl (lv_at hl 0 rfl) ?_
  refine lv_iload_n C0.1 C0.2.1 dL_croaksForByPonds_3 rfl (lv_at hl 1 rfl) ?_
  refine kx_i C1 hI (qx_V (As := [.int x1]) C0 C1 hI 0 (c_X9_croaksForByPonds l hl0 g (xb g r T ++ (outs g q1 q2 o d ++ Y)) r b H.size n M x1 hf) w_1183 w_717 w_718 w_119 w_719 ⟨rfl, rfl⟩ hd_X9_croaksForByPonds ⟨Nat.le_of_ble_eq_true rfl, Nat.le_of_ble_eq_true rfl⟩ (kdlt0 (rfl : kdI 0 = 0)) (shI_0 (rfl : kdI 0 = 0) _) rfl rfl rfl hl.1 rfl (Nat.le_of_ble_eq_true rfl) dL_croaksForByPonds_4 ⟨Nat.le_of_ble_eq_true rfl, Nat.le_of_ble_eq_true rfl⟩) (fun k H locs ce q9 e1 hI g1 g2 g3 => ?_) (fun v H locs e1 hI => ?_)
  · rcases hk k e1 with e
    · subst e
      refine vx_catch C0.2.2.2.1 (tableOf []) ⟨0, 9, 12, 13⟩ (tableOf []) hTB (fun z hz => nomatch hz) (by decide) (by decide) (C0.2.2.2.2 _ w_749) (va_Nw.use rfl (C1.2.2.2.2.2.1 _ (List.mem_of_getElem? (i := 0) rfl))) g1 g2 g3 ?_
      refine lv_astore_n (lv' := [(3, .ref q9), (0, .ref (b 0)), (1, .int x1), (2, .ref q1)]) C0.1 C0.2.1 dL_croaksForByPonds_12 rfl hl (by decide) rfl (fun ls hl => ?_)
      refine lv_iconst (v := 1) C0.1 C0.2.1 dL_croaksForByPonds_13 (by decide) ?_
      exact e_h C0 rfl hI hr hlocks (by rw [cxl e1]; decide) (by rw [oul e1]) rfl dL_croaksForByPonds_14
  · refine lv_i2l C0.1 C0.2.1 dL_croaksForByPonds_7 rfl ?_
    refine o_last (W1 := xb g r T) 2 rfl C0 C1 hI dL_croaksForByPonds_8 (fun H locs eA C1 hI => ?_)
    refine lv_goto (tgt := 15) C0.1 C0.2.1 dL_croaksForByPonds_9 (by decide) ?_
    refine lv_iconst (v := 0) C0.1 C0.2.1 dL_croaksForByPonds_15 (by decide) ?_
    exact e_h C0 eA hI hr hlocks (cxr e1).symm (by rw [our (f := ciI) e1]) rfl dL_croaksForByPonds_16

theorem hd_L_croaksAgainst : yL_croaksAgainst.cls ≠ "java/lang/invoke/MethodHandle" ∧ yL_croaksAgainst.cls ≠ "java/lang/invoke/VarHandle" ∧ (parseMethodDescriptor yL_croaksAgainst.desc).map (fun d => d.parameters.length) = some 3 := ⟨by decide +kernel, by decide +kernel, by decide +kernel⟩
set_option maxHeartbeats 4000000 in
theorem h_croaksAgainst (l : Launch) (hl0 : l.stackTraces = false) (g : GG) (Y : va_W) (r b : Nat → Nat) (sz n : Nat) (T M : Mem) (q1 q2 : Nat) (o : Nat → Int64) (d : Nat → UInt64) (x1 : Int32) {q0 : RX Int32} (hf : F_X9_croaksAgainst n x1 M = some q0) (hk : ∀ k, q0 = .inl k → k = 2) : Met l yL_croaksAgainst (.codeWith yL_croaksAgainst method_34_code 4 (some .int) [(0, 9, 12, 13)] :: LWg) (rmD 12 1 6) (va_Pc [.ref (b 0), .int x1, .ref q1] (PreP g (xb g r T ++ (outs g q1 q2 o d ++ Y)) 372 (shI g r b) b sz M)) (va_Qi (fun res (_ : Unit) => res = cx [2] q0) (fun _ t => PoP g (xb g r T ++ (outs g q1 q2 (ou ciI o q0) d ++ Y)) 372 (shI g r b) b M t) (AA (xb g r T ++ (outs g q1 q2 o d ++ Y)) b 372 sz)) 1 6 (AA (xb g r T ++ (outs g q1 q2 o d ++ Y)) b 372 sz) := by
  refine metH_go (by decide +kernel) rfl (Nat.le_of_ble_eq_true rfl) ?_
  intro p e s m below meth c ls H locs C0 C1 hr hlocks hTB hsz hl hI
  subst hsz
  have hl : lv_has ls 4 [(0, .ref (b 0)), (1, .int x1), (2, .ref q1)] := hl
  refine lv_aload_n C0.1 C0.2.1 dL_croaksAgainst_0 rfl (lv_at hl 2 rfl) ?_
  refine lv_iconst (v := 0) C0.1 C0.2.1 dL_croaksAgainst_1 (by decide) ?_
  refine lv_aload_n C0.1 C0.2.1 dL_croaksAgainst_2 rfl (lv_at hl 0 rfl) ?_
  refine lv_iload_n C0.1 C0.2.1 dL_croaksAgainst_3 rfl (lv_at hl 1 rfl) ?_
  refine kx_i C1 hI (qx_V (As := [.int x1]) C0 C1 hI 0 (c_X9_croaksAgainst l hl0 g (xb g r T ++ (outs g q1 q2 o d ++ Y)) r b H.size n M x1 hf) w_1187 w_1188 w_1189 w_119 w_1190 ⟨rfl, rfl⟩ hd_X9_croaksAgainst ⟨Nat.le_of_ble_eq_true rfl, Nat.le_of_ble_eq_true rfl⟩ (kdlt0 (rfl : kdI 0 = 0)) (shI_0 (rfl : kdI 0 = 0) _) rfl rfl rfl hl.1 rfl (Nat.le_of_ble_eq_true rfl) dL_croaksAgainst_4 ⟨Nat.le_of_ble_eq_true rfl, Nat.le_of_ble_eq_true rfl⟩) (fun k H locs ce q9 e1 hI g1 g2 g3 => ?_) (fun v H locs e1 hI => ?_)
  · rcases hk k e1 with e
    · subst e
      refine vx_catch C0.2.2.2.1 (tableOf []) ⟨0, 9, 12, 13⟩ (tableOf []) hTB (fun z hz => nomatch hz) (by decide) (by decide) (C0.2.2.2.2 _ w_749) (va_Nw.use rfl (C1.2.2.2.2.2.1 _ (List.mem_of_getElem? (i := 0) rfl))) g1 g2 g3 ?_
      refine lv_astore_n (lv' := [(3, .ref q9), (0, .ref (b 0)), (1, .int x1), (2, .ref q1)]) C0.1 C0.2.1 dL_croaksAgainst_12 rfl hl (by decide) rfl (fun ls hl => ?_)
      refine lv_iconst (v := 1) C0.1 C0.2.1 dL_croaksAgainst_13 (by decide) ?_
      exact e_h C0 rfl hI hr hlocks (by rw [cxl e1]; decide) (by rw [oul e1]) rfl dL_croaksAgainst_14
  · refine lv_i2l C0.1 C0.2.1 dL_croaksAgainst_7 rfl ?_
    refine o_last (W1 := xb g r T) 2 rfl C0 C1 hI dL_croaksAgainst_8 (fun H locs eA C1 hI => ?_)
    refine lv_goto (tgt := 15) C0.1 C0.2.1 dL_croaksAgainst_9 (by decide) ?_
    refine lv_iconst (v := 0) C0.1 C0.2.1 dL_croaksAgainst_15 (by decide) ?_
    exact e_h C0 eA hI hr hlocks (cxr e1).symm (by rw [our (f := ciI) e1]) rfl dL_croaksAgainst_16

theorem hd_L_strongestFrog : yL_strongestFrog.cls ≠ "java/lang/invoke/MethodHandle" ∧ yL_strongestFrog.cls ≠ "java/lang/invoke/VarHandle" ∧ (parseMethodDescriptor yL_strongestFrog.desc).map (fun d => d.parameters.length) = some 3 := ⟨by decide +kernel, by decide +kernel, by decide +kernel⟩
set_option maxHeartbeats 4000000 in
theorem h_strongestFrog (l : Launch) (hl0 : l.stackTraces = false) (g : GG) (Y : va_W) (r b : Nat → Nat) (sz n : Nat) (T M : Mem) (q1 q2 : Nat) (o : Nat → Int64) (d : Nat → UInt64) (x1 : Int32) {q0 : RX Int32} (hf : F_X9_strongestFrog n x1 M = some q0) (hk : ∀ k, q0 = .inl k → k = 2 ∨ k = 5) : Met l yL_strongestFrog (.codeWith yL_strongestFrog method_35_code 4 (some .int) [(0, 9, 12, 13), (0, 9, 15, 38)] :: LWg) (rmD 12 2 12) (va_Pc [.ref (b 0), .int x1, .ref q1] (PreP g (xb g r T ++ (outs g q1 q2 o d ++ Y)) 372 (shI g r b) b sz M)) (va_Qi (fun res (_ : Unit) => res = cx [2, 5] q0) (fun _ t => PoP g (xb g r T ++ (outs g q1 q2 (ou ciI o q0) d ++ Y)) 372 (shI g r b) b M t) (AA (xb g r T ++ (outs g q1 q2 o d ++ Y)) b 372 sz)) 2 12 (AA (xb g r T ++ (outs g q1 q2 o d ++ Y)) b 372 sz) := by
  refine metH_go (by decide +kernel) rfl (Nat.le_of_ble_eq_true rfl) ?_
  intro p e s m below meth c ls H locs C0 C1 hr hlocks hTB hsz hl hI
  subst hsz
  have hl : lv_has ls 4 [(0, .ref (b 0)), (1, .int x1), (2, .ref q1)] := hl
  refine lv_aload_n C0.1 C0.2.1 dL_strongestFrog_0 rfl (lv_at hl 2 rfl) ?_
  refine lv_iconst (v := 0) C0.1 C0.2.1 dL_strongestFrog_1 (by decide) ?_
  refine lv_aload_n C0.1 C0.2.1 dL_strongestFrog_2 rfl (lv_at hl 0 rfl) ?_
  refine lv_iload_n C0.1 C0.2.1 dL_strongestFrog_3 rfl (lv_at hl 1 rfl) ?_
  refine kx_i C1 hI (qx_V (As := [.int x1]) C0 C1 hI 0 (c_X9_strongestFrog l hl0 g (xb g r T ++ (outs g q1 q2 o d ++ Y)) r b H.size n M x1 hf) w_1194 w_1195 w_1196 w_119 w_1197 ⟨rfl, rfl⟩ hd_X9_strongestFrog ⟨Nat.le_of_ble_eq_true rfl, Nat.le_of_ble_eq_true rfl⟩ (kdlt0 (rfl : kdI 0 = 0)) (shI_0 (rfl : kdI 0 = 0) _) rfl rfl rfl hl.1 rfl (Nat.le_of_ble_eq_true rfl) dL_strongestFrog_4 ⟨Nat.le_of_ble_eq_true rfl, Nat.le_of_ble_eq_true rfl⟩) (fun k H locs ce q9 e1 hI g1 g2 g3 => ?_) (fun v H locs e1 hI => ?_)
  · rcases hk k e1 with e | e
    · subst e
      refine vx_catch C0.2.2.2.1 (tableOf []) ⟨0, 9, 12, 13⟩ (tableOf [(0, 9, 15, 38)]) hTB (fun z hz => nomatch hz) (by decide) (by decide) (C0.2.2.2.2 _ w_749) (va_Nw.use rfl (C1.2.2.2.2.2.1 _ (List.mem_of_getElem? (i := 0) rfl))) g1 g2 g3 ?_
      refine lv_astore_n (lv' := [(3, .ref q9), (0, .ref (b 0)), (1, .int x1), (2, .ref q1)]) C0.1 C0.2.1 dL_strongestFrog_12 rfl hl (by decide) rfl (fun ls hl => ?_)
      refine lv_iconst (v := 1) C0.1 C0.2.1 dL_strongestFrog_13 (by decide) ?_
      exact e_h C0 rfl hI hr hlocks (by rw [cxl e1]; decide) (by rw [oul e1]) rfl dL_strongestFrog_14
    · subst e
      refine vx_catch C0.2.2.2.1 (tableOf [(0, 9, 12, 13)]) ⟨0, 9, 15, 38⟩ (tableOf []) hTB (List.forall_mem_cons.mpr ⟨Or.inr ⟨by decide, "java/lang/IndexOutOfBoundsException", C0.2.2.2.2 _ w_749, C1.2.2.2.2.2.2.1 _ (List.mem_of_getElem? (i := 3) rfl)⟩, fun _ h => absurd h List.not_mem_nil⟩) (by decide) (by decide) (C0.2.2.2.2 _ w_888) (va_Nw.use rfl (C1.2.2.2.2.2.1 _ (List.mem_of_getElem? (i := 4) rfl))) g1 g2 g3 ?_
      refine lv_astore_n (lv' := [(3, .ref q9), (0, .ref (b 0)), (1, .int x1), (2, .ref q1)]) C0.1 C0.2.1 dL_strongestFrog_15 rfl hl (by decide) rfl (fun ls hl => ?_)
      refine lv_iconst (v := 2) C0.1 C0.2.1 dL_strongestFrog_16 (by decide) ?_
      exact e_h C0 rfl hI hr hlocks (by rw [cxl e1]; decide) (by rw [oul e1]) rfl dL_strongestFrog_17
  · refine lv_i2l C0.1 C0.2.1 dL_strongestFrog_7 rfl ?_
    refine o_last (W1 := xb g r T) 2 rfl C0 C1 hI dL_strongestFrog_8 (fun H locs eA C1 hI => ?_)
    refine lv_goto (tgt := 18) C0.1 C0.2.1 dL_strongestFrog_9 (by decide) ?_
    refine lv_iconst (v := 0) C0.1 C0.2.1 dL_strongestFrog_18 (by decide) ?_
    exact e_h C0 eA hI hr hlocks (cxr e1).symm (by rw [our (f := ciI) e1]) rfl dL_strongestFrog_19

theorem hd_L_shareFor : yL_shareFor.cls ≠ "java/lang/invoke/MethodHandle" ∧ yL_shareFor.cls ≠ "java/lang/invoke/VarHandle" ∧ (parseMethodDescriptor yL_shareFor.desc).map (fun d => d.parameters.length) = some 3 := ⟨by decide +kernel, by decide +kernel, by decide +kernel⟩
set_option maxHeartbeats 4000000 in
theorem h_shareFor (l : Launch) (hl0 : l.stackTraces = false) (g : GG) (Y : va_W) (r b : Nat → Nat) (sz n : Nat) (T M : Mem) (q1 q2 : Nat) (o : Nat → Int64) (d : Nat → UInt64) (x1 : Int32) {q0 : RX UInt32} (hf : F_X9_shareFor n x1 M = some q0) (hk : ∀ k, q0 = .inl k → k = 2 ∨ k = 3) (hn : ∀ v, q0 = .inr v → n64 (FP.f2d v) = true) : Met l yL_shareFor (.codeWith yL_shareFor method_36_code 4 (some .int) [(0, 9, 12, 13), (0, 9, 15, 127)] :: LWg) (rmD 12 2 12) (va_Pc [.ref (b 0), .int x1, .ref q2] (PreP g (xb g r T ++ (outs g q1 q2 o d ++ Y)) 372 (shI g r b) b sz M)) (va_Qi (fun res (_ : Unit) => res = cx [2, 3] q0) (fun _ t => PoP g (xb g r T ++ (outs g q1 q2 o (od FP.f2d d q0) ++ Y)) 372 (shI g r b) b M t) (AA (xb g r T ++ (outs g q1 q2 o d ++ Y)) b 372 sz)) 2 12 (AA (xb g r T ++ (outs g q1 q2 o d ++ Y)) b 372 sz) := by
  refine metH_go (by decide +kernel) rfl (Nat.le_of_ble_eq_true rfl) ?_
  intro p e s m below meth c ls H locs C0 C1 hr hlocks hTB hsz hl hI
  subst hsz
  have hl : lv_has ls 4 [(0, .ref (b 0)), (1, .int x1), (2, .ref q2)] := hl
  refine lv_aload_n C0.1 C0.2.1 dL_shareFor_0 rfl (lv_at hl 2 rfl) ?_
  refine lv_iconst (v := 0) C0.1 C0.2.1 dL_shareFor_1 (by decide) ?_
  refine lv_aload_n C0.1 C0.2.1 dL_shareFor_2 rfl (lv_at hl 0 rfl) ?_
  refine lv_iload_n C0.1 C0.2.1 dL_shareFor_3 rfl (lv_at hl 1 rfl) ?_
  refine kx_f C1 hI (qx_V (As := [.int x1]) C0 C1 hI 0 (c_X9_shareFor l hl0 g (xb g r T ++ (outs g q1 q2 o d ++ Y)) r b H.size n M x1 hf) w_1216 w_1217 w_1218 w_119 w_1219 ⟨rfl, rfl⟩ hd_X9_shareFor ⟨Nat.le_of_ble_eq_true rfl, Nat.le_of_ble_eq_true rfl⟩ (kdlt0 (rfl : kdI 0 = 0)) (shI_0 (rfl : kdI 0 = 0) _) rfl rfl rfl hl.1 rfl (Nat.le_of_ble_eq_true rfl) dL_shareFor_4 ⟨Nat.le_of_ble_eq_true rfl, Nat.le_of_ble_eq_true rfl⟩) (fun k H locs ce q9 e1 hI g1 g2 g3 => ?_) (fun v H locs e1 hI => ?_)
  · rcases hk k e1 with e | e
    · subst e
      refine vx_catch C0.2.2.2.1 (tableOf []) ⟨0, 9, 12, 13⟩ (tableOf [(0, 9, 15, 127)]) hTB (fun z hz => nomatch hz) (by decide) (by decide) (C0.2.2.2.2 _ w_749) (va_Nw.use rfl (C1.2.2.2.2.2.1 _ (List.mem_of_getElem? (i := 0) rfl))) g1 g2 g3 ?_
      refine lv_astore_n (lv' := [(3, .ref q9), (0, .ref (b 0)), (1, .int x1), (2, .ref q2)]) C0.1 C0.2.1 dL_shareFor_12 rfl hl (by decide) rfl (fun ls hl => ?_)
      refine lv_iconst (v := 1) C0.1 C0.2.1 dL_shareFor_13 (by decide) ?_
      exact e_h C0 rfl hI hr hlocks (by rw [cxl e1]; decide) (by rw [odl e1]) rfl dL_shareFor_14
    · subst e
      refine vx_catch C0.2.2.2.1 (tableOf [(0, 9, 12, 13)]) ⟨0, 9, 15, 127⟩ (tableOf []) hTB (List.forall_mem_cons.mpr ⟨Or.inr ⟨by decide, "java/lang/IndexOutOfBoundsException", C0.2.2.2.2 _ w_749, C1.2.2.2.2.2.2.1 _ (List.mem_of_getElem? (i := 4) rfl)⟩, fun _ h => absurd h List.not_mem_nil⟩) (by decide) (by decide) (C0.2.2.2.2 _ w_1202) (va_Nw.use rfl (C1.2.2.2.2.2.1 _ (List.mem_of_getElem? (i := 6) rfl))) g1 g2 g3 ?_
      refine lv_astore_n (lv' := [(3, .ref q9), (0, .ref (b 0)), (1, .int x1), (2, .ref q2)]) C0.1 C0.2.1 dL_shareFor_15 rfl hl (by decide) rfl (fun ls hl => ?_)
      refine lv_iconst (v := 2) C0.1 C0.2.1 dL_shareFor_16 (by decide) ?_
      exact e_h C0 rfl hI hr hlocks (by rw [cxl e1]; decide) (by rw [odl e1]) rfl dL_shareFor_17
  · refine lv_f2d C0.1 C0.2.1 dL_shareFor_7 (n64_n (hn v e1)) ?_
    refine o_dast (W1 := xb g r T) 2 rfl C0 C1 hI dL_shareFor_8 (fun H locs eA C1 hI => ?_)
    refine lv_goto (tgt := 18) C0.1 C0.2.1 dL_shareFor_9 (by decide) ?_
    refine lv_iconst (v := 0) C0.1 C0.2.1 dL_shareFor_18 (by decide) ?_
    exact e_h C0 eA hI hr hlocks (cxr e1).symm (by rw [odr (f := FP.f2d) e1]) rfl dL_shareFor_19

theorem hd_L_append : yL_append.cls ≠ "java/lang/invoke/MethodHandle" ∧ yL_append.cls ≠ "java/lang/invoke/VarHandle" ∧ (parseMethodDescriptor yL_append.desc).map (fun d => d.parameters.length) = some 3 := ⟨by decide +kernel, by decide +kernel, by decide +kernel⟩
set_option maxHeartbeats 4000000 in
theorem h_append (l : Launch) (hl0 : l.stackTraces = false) (g : GG) (Y : va_W) (r b : Nat → Nat) (sz n : Nat) (T M : Mem) (q1 q2 : Nat) (o : Nat → Int64) (d : Nat → UInt64) (x1 : Int32) {q0 : RX Int32} {T' : Mem} {M' : Mem} (hf : Fg_X9_append n T x1 M = some (q0, T', M')) (hk : ∀ k, q0 = .inl k → k = 1 ∨ k = 0) (hT : ∀ k, q0 = .inl k → T' = T) : Met l yL_append (.codeWith yL_append method_37_code 4 (some .int) [(0, 9, 12, 15), (0, 9, 15, 17)] :: LWg) (rmD 9 1 80) (va_Pc [.ref (b 0), .int x1, .ref q1] (PreP g (xb g r T ++ (outs g q1 q2 o d ++ Y)) 372 (shI g r b) b sz M)) (va_Qi (fun res (_ : Unit) => res = cx [1, 0] q0) (fun _ t => PoH g Y (AA (xb g r T ++ (outs g q1 q2 o d ++ Y)) b 372 sz) b sz q1 q2 (ou ciI o q0) d T' M' t) (AA (xb g r T ++ (outs g q1 q2 o d ++ Y)) b 372 sz)) 1 80 (AA (xb g r T ++ (outs g q1 q2 o d ++ Y)) b 372 sz) := by
  refine metH_go (by decide +kernel) rfl (Nat.le_of_ble_eq_true rfl) ?_
  intro p e s m below meth c ls H locs C0 C1 hr hlocks hTB hsz hl hI
  subst hsz
  have hl : lv_has ls 4 [(0, .ref (b 0)), (1, .int x1), (2, .ref q1)] := hl
  have hG := GX.go C1
  refine lv_aload_n C0.1 C0.2.1 dL_append_0 rfl (lv_at hl 2 rfl) ?_
  refine lv_iconst (v := 0) C0.1 C0.2.1 dL_append_1 (by decide) ?_
  refine lv_aload_n C0.1 C0.2.1 dL_append_2 rfl (lv_at hl 0 rfl) ?_
  refine lv_iload_n C0.1 C0.2.1 dL_append_3 rfl (lv_at hl 1 rfl) ?_
  refine kxg_i hG hI (qx_V (As := [.int x1]) C0 C1 hI 0 (cg_X9_append l hl0 g (outs g q1 q2 o d ++ Y) r b H.size n M T x1 hf) w_1225 w_1226 w_1227 w_119 w_1228 ⟨rfl, rfl⟩ hd_X9_append ⟨Nat.le_of_ble_eq_true rfl, Nat.le_of_ble_eq_true rfl⟩ (kdlt0 (rfl : kdI 0 = 0)) (shI_0 (rfl : kdI 0 = 0) _) rfl rfl rfl hl.1 rfl (Nat.le_of_ble_eq_true rfl) dL_append_4 ⟨Nat.le_of_ble_eq_true rfl, Nat.le_of_ble_eq_true rfl⟩) (fun k H locs ce q9 e1 hI g1 g2 g3 => ?_) (fun v r' X' H locs e1 hG hI => ?_)
  · rcases hk k e1 with e | e
    · subst e
      refine vx_catch C0.2.2.2.1 (tableOf []) ⟨0, 9, 12, 15⟩ (tableOf [(0, 9, 15, 17)]) hTB (fun z hz => nomatch hz) (by decide) (by decide) (C0.2.2.2.2 _ w_770) (va_Nw.use rfl (C1.2.2.2.2.2.1 _ (List.mem_of_getElem? (i := 1) rfl))) g1 g2 g3 ?_
      refine lv_astore_n (lv' := [(3, .ref q9), (0, .ref (b 0)), (1, .int x1), (2, .ref q1)]) C0.1 C0.2.1 dL_append_12 rfl hl (by decide) rfl (fun ls hl => ?_)
      refine lv_iconst (v := 1) C0.1 C0.2.1 dL_append_13 (by decide) ?_
      exact e_hgl C0 C1 hI hr hlocks (by rw [cxl e1]; decide) (oul e1) rfl (hT _ e1) dL_append_14
    · subst e
      refine vx_catch C0.2.2.2.1 (tableOf [(0, 9, 12, 15)]) ⟨0, 9, 15, 17⟩ (tableOf []) hTB (List.forall_mem_cons.mpr ⟨Or.inr ⟨by decide, "java/lang/IllegalArgumentException", C0.2.2.2.2 _ w_770, C1.2.2.2.2.2.2.1 _ (List.mem_of_getElem? (i := 6) rfl)⟩, fun _ h => absurd h List.not_mem_nil⟩) (by decide) (by decide) (C0.2.2.2.2 _ w_771) (va_Nw.use rfl (C1.2.2.2.2.2.1 _ (List.mem_of_getElem? (i := 2) rfl))) g1 g2 g3 ?_
      refine lv_astore_n (lv' := [(3, .ref q9), (0, .ref (b 0)), (1, .int x1), (2, .ref q1)]) C0.1 C0.2.1 dL_append_15 rfl hl (by decide) rfl (fun ls hl => ?_)
      refine lv_iconst (v := 2) C0.1 C0.2.1 dL_append_16 (by decide) ?_
      exact e_hgl C0 C1 hI hr hlocks (by rw [cxl e1]; decide) (oul e1) rfl (hT _ e1) dL_append_17
  · refine lv_i2l C0.1 C0.2.1 dL_append_7 rfl ?_
    refine og_last C0 hG hI dL_append_8 (fun H locs hG hI => ?_)
    refine lv_goto (tgt := 18) C0.1 C0.2.1 dL_append_9 (by decide) ?_
    refine lv_iconst (v := 0) C0.1 C0.2.1 dL_append_18 (by decide) ?_
    exact e_hgr C0 hG hI hr hlocks (cxr e1).symm (our (f := ciI) e1) dL_append_19

theorem hd_L_run : yL_run.cls ≠ "java/lang/invoke/MethodHandle" ∧ yL_run.cls ≠ "java/lang/invoke/VarHandle" ∧ (parseMethodDescriptor yL_run.desc).map (fun d => d.parameters.length) = some 2 := ⟨by decide +kernel, by decide +kernel, by decide +kernel⟩
set_option maxHeartbeats 4000000 in
theorem h_run (l : Launch) (hl0 : l.stackTraces = false) (g : GG) (Y : va_W) (r b : Nat → Nat) (sz n : Nat) (T M : Mem) (q1 q2 : Nat) (o : Nat → Int64) (d : Nat → UInt64) {q0 : RX Int32} {M' : Mem} (hf : F_X9_run n T M = some (q0, M')) (hk : ∀ k, q0 = .inl k → k = 1 ∨ k = 0) : Met l yL_run (.codeWith yL_run method_38_code 3 (some .int) [(0, 8, 11, 15), (0, 8, 14, 17)] :: LWg) (rmD 11 1 6) (va_Pc [.ref (b 0), .ref q1] (PreP g (xb g r T ++ (outs g q1 q2 o d ++ Y)) 372 (shI g r b) b sz M)) (va_Qi (fun res (_ : Unit) => res = cx [1, 0] q0) (fun _ t => PoP g (xb g r T ++ (outs g q1 q2 (ou ciI o q0) d ++ Y)) 372 (shI g r b) b M' t) (AA (xb g r T ++ (outs g q1 q2 o d ++ Y)) b 372 sz)) 1 6 (AA (xb g r T ++ (outs g q1 q2 o d ++ Y)) b 372 sz) := by
  refine metH_go (by decide +kernel) rfl (Nat.le_of_ble_eq_true rfl) ?_
  intro p e s m below meth c ls H locs C0 C1 hr hlocks hTB hsz hl hI
  subst hsz
  have hl : lv_has ls 3 [(0, .ref (b 0)), (1, .ref q1)] := hl
  refine lv_aload_n C0.1 C0.2.1 dL_run_0 rfl (lv_at hl 1 rfl) ?_
  refine lv_iconst (v := 0) C0.1 C0.2.1 dL_run_1 (by decide) ?_
  refine lv_aload_n C0.1 C0.2.1 dL_run_2 rfl (lv_at hl 0 rfl) ?_
  refine kx_i C1 hI (qx_V (As := []) C0 C1 hI 0 (c_X9_run l hl0 g (outs g q1 q2 o d ++ Y) r b H.size n M T hf) w_1334 w_1335 w_1336 w_119 w_1337 ⟨rfl, rfl⟩ hd_X9_run ⟨Nat.le_of_ble_eq_true rfl, Nat.le_of_ble_eq_true rfl⟩ (kdlt0 (rfl : kdI 0 = 0)) (shI_0 (rfl : kdI 0 = 0) _) rfl rfl rfl hl.1 rfl (Nat.le_of_ble_eq_true rfl) dL_run_3 ⟨Nat.le_of_ble_eq_true rfl, Nat.le_of_ble_eq_true rfl⟩) (fun k H locs ce q9 e1 hI g1 g2 g3 => ?_) (fun v H locs e1 hI => ?_)
  · rcases hk k e1 with e | e
    · subst e
      refine vx_catch C0.2.2.2.1 (tableOf []) ⟨0, 8, 11, 15⟩ (tableOf [(0, 8, 14, 17)]) hTB (fun z hz => nomatch hz) (by decide) (by decide) (C0.2.2.2.2 _ w_770) (va_Nw.use rfl (C1.2.2.2.2.2.1 _ (List.mem_of_getElem? (i := 1) rfl))) g1 g2 g3 ?_
      refine lv_astore_n (lv' := [(2, .ref q9), (0, .ref (b 0)), (1, .ref q1)]) C0.1 C0.2.1 dL_run_11 rfl hl (by decide) rfl (fun ls hl => ?_)
      refine lv_iconst (v := 1) C0.1 C0.2.1 dL_run_12 (by decide) ?_
      exact e_h C0 rfl hI hr hlocks (by rw [cxl e1]; decide) (by rw [oul e1]) rfl dL_run_13
    · subst e
      refine vx_catch C0.2.2.2.1 (tableOf [(0, 8, 11, 15)]) ⟨0, 8, 14, 17⟩ (tableOf []) hTB (List.forall_mem_cons.mpr ⟨Or.inr ⟨by decide, "java/lang/IllegalArgumentException", C0.2.2.2.2 _ w_770, C1.2.2.2.2.2.2.1 _ (List.mem_of_getElem? (i := 6) rfl)⟩, fun _ h => absurd h List.not_mem_nil⟩) (by decide) (by decide) (C0.2.2.2.2 _ w_771) (va_Nw.use rfl (C1.2.2.2.2.2.1 _ (List.mem_of_getElem? (i := 2) rfl))) g1 g2 g3 ?_
      refine lv_astore_n (lv' := [(2, .ref q9), (0, .ref (b 0)), (1, .ref q1)]) C0.1 C0.2.1 dL_run_14 rfl hl (by decide) rfl (fun ls hl => ?_)
      refine lv_iconst (v := 2) C0.1 C0.2.1 dL_run_15 (by decide) ?_
      exact e_h C0 rfl hI hr hlocks (by rw [cxl e1]; decide) (by rw [oul e1]) rfl dL_run_16
  · refine lv_i2l C0.1 C0.2.1 dL_run_6 rfl ?_
    refine o_last (W1 := xb g r T) 2 rfl C0 C1 hI dL_run_7 (fun H locs eA C1 hI => ?_)
    refine lv_goto (tgt := 17) C0.1 C0.2.1 dL_run_8 (by decide) ?_
    refine lv_iconst (v := 0) C0.1 C0.2.1 dL_run_17 (by decide) ?_
    exact e_h C0 eA hI hr hlocks (cxr e1).symm (by rw [our (f := ciI) e1]) rfl dL_run_18

theorem hd_L_errorPosition : yL_errorPosition.cls ≠ "java/lang/invoke/MethodHandle" ∧ yL_errorPosition.cls ≠ "java/lang/invoke/VarHandle" ∧ (parseMethodDescriptor yL_errorPosition.desc).map (fun d => d.parameters.length) = some 2 := ⟨by decide +kernel, by decide +kernel, by decide +kernel⟩
set_option maxHeartbeats 4000000 in
theorem h_errorPosition (l : Launch) (hl0 : l.stackTraces = false) (g : GG) (Y : va_W) (r b : Nat → Nat) (sz n : Nat) (T M : Mem) (q1 q2 : Nat) (o : Nat → Int64) (d : Nat → UInt64) {q0 : RX Int32} (hf : F_X9_errorPosition n M = some q0) (hk : ∀ k, q0 = .inl k → k = 5) : Met l yL_errorPosition (.codeWith yL_errorPosition method_39_code 3 (some .int) [(0, 8, 11, 38)] :: LWg) (rmD 9 1 6) (va_Pc [.ref (b 0), .ref q1] (PreP g (xb g r T ++ (outs g q1 q2 o d ++ Y)) 372 (shI g r b) b sz M)) (va_Qi (fun res (_ : Unit) => res = cx [5] q0) (fun _ t => PoP g (xb g r T ++ (outs g q1 q2 (ou ciI o q0) d ++ Y)) 372 (shI g r b) b M t) (AA (xb g r T ++ (outs g q1 q2 o d ++ Y)) b 372 sz)) 1 6 (AA (xb g r T ++ (outs g q1 q2 o d ++ Y)) b 372 sz) := by
  refine metH_go (by decide +kernel) rfl (Nat.le_of_ble_eq_true rfl) ?_
  intro p e s m below meth c ls H locs C0 C1 hr hlocks hTB hsz hl hI
  subst hsz
  have hl : lv_has ls 3 [(0, .ref (b 0)), (1, .ref q1)] := hl
  refine lv_aload_n C0.1 C0.2.1 dL_errorPosition_0 rfl (lv_at hl 1 rfl) ?_
  refine lv_iconst (v := 0) C0.1 C0.2.1 dL_errorPosition_1 (by decide) ?_
  refine lv_aload_n C0.1 C0.2.1 dL_errorPosition_2 rfl (lv_at hl 0 rfl) ?_
  refine kx_i C1 hI (qx_V (As := []) C0 C1 hI 0 (c_X9_errorPosition l hl0 g (xb g r T ++ (outs g q1 q2 o d ++ Y)) r b H.size n M hf) w_1623 w_1624 w_1625 w_119 w_1626 ⟨rfl, rfl⟩ hd_X9_errorPosition ⟨Nat.le_of_ble_eq_true rfl, Nat.le_of_ble_eq_true rfl⟩ (kdlt0 (rfl : kdI 0 = 0)) (shI_0 (rfl : kdI 0 = 0) _) rfl rfl rfl hl.1 rfl (Nat.le_of_ble_eq_true rfl) dL_errorPosition_3 ⟨Nat.le_of_ble_eq_true rfl, Nat.le_of_ble_eq_true rfl⟩) (fun k H locs ce q9 e1 hI g1 g2 g3 => ?_) (fun v H locs e1 hI => ?_)
  · rcases hk k e1 with e
    · subst e
      refine vx_catch C0.2.2.2.1 (tableOf []) ⟨0, 8, 11, 38⟩ (tableOf []) hTB (fun z hz => nomatch hz) (by decide) (by decide) (C0.2.2.2.2 _ w_888) (va_Nw.use rfl (C1.2.2.2.2.2.1 _ (List.mem_of_getElem? (i := 4) rfl))) g1 g2 g3 ?_
      refine lv_astore_n (lv' := [(2, .ref q9), (0, .ref (b 0)), (1, .ref q1)]) C0.1 C0.2.1 dL_errorPosition_11 rfl hl (by decide) rfl (fun ls hl => ?_)
      refine lv_iconst (v := 1) C0.1 C0.2.1 dL_errorPosition_12 (by decide) ?_
      exact e_h C0 rfl hI hr hlocks (by rw [cxl e1]; decide) (by rw [oul e1]) rfl dL_errorPosition_13
  · refine lv_i2l C0.1 C0.2.1 dL_errorPosition_6 rfl ?_
    refine o_last (W1 := xb g r T) 2 rfl C0 C1 hI dL_errorPosition_7 (fun H locs eA C1 hI => ?_)
    refine lv_goto (tgt := 14) C0.1 C0.2.1 dL_errorPosition_8 (by decide) ?_
    refine lv_iconst (v := 0) C0.1 C0.2.1 dL_errorPosition_14 (by decide) ?_
    exact e_h C0 eA hI hr hlocks (cxr e1).symm (by rw [our (f := ciI) e1]) rfl dL_errorPosition_15

theorem hd_L_failedCommand : yL_failedCommand.cls ≠ "java/lang/invoke/MethodHandle" ∧ yL_failedCommand.cls ≠ "java/lang/invoke/VarHandle" ∧ (parseMethodDescriptor yL_failedCommand.desc).map (fun d => d.parameters.length) = some 2 := ⟨by decide +kernel, by decide +kernel, by decide +kernel⟩
set_option maxHeartbeats 4000000 in
theorem h_failedCommand (l : Launch) (hl0 : l.stackTraces = false) (g : GG) (Y : va_W) (r b : Nat → Nat) (sz n : Nat) (T M : Mem) (q1 q2 : Nat) (o : Nat → Int64) (d : Nat → UInt64) {q0 : RX Int32} (hf : F_X9_failedCommand n M = some q0) (hk : ∀ k, q0 = .inl k → k = 5) : Met l yL_failedCommand (.codeWith yL_failedCommand method_40_code 3 (some .int) [(0, 8, 11, 38)] :: LWg) (rmD 9 1 6) (va_Pc [.ref (b 0), .ref q1] (PreP g (xb g r T ++ (outs g q1 q2 o d ++ Y)) 372 (shI g r b) b sz M)) (va_Qi (fun res (_ : Unit) => res = cx [5] q0) (fun _ t => PoP g (xb g r T ++ (outs g q1 q2 (ou ciI o q0) d ++ Y)) 372 (shI g r b) b M t) (AA (xb g r T ++ (outs g q1 q2 o d ++ Y)) b 372 sz)) 1 6 (AA (xb g r T ++ (outs g q1 q2 o d ++ Y)) b 372 sz) := by
  refine metH_go (by decide +kernel) rfl (Nat.le_of_ble_eq_true rfl) ?_
  intro p e s m below meth c ls H locs C0 C1 hr hlocks hTB hsz hl hI
  subst hsz
  have hl : lv_has ls 3 [(0, .ref (b 0)), (1, .ref q1)] := hl
  refine lv_aload_n C0.1 C0.2.1 dL_failedCommand_0 rfl (lv_at hl 1 rfl) ?_
  refine lv_iconst (v := 0) C0.1 C0.2.1 dL_failedCommand_1 (by decide) ?_
  refine lv_aload_n C0.1 C0.2.1 dL_failedCommand_2 rfl (lv_at hl 0 rfl) ?_
  refine kx_i C1 hI (qx_V (As := []) C0 C1 hI 0 (c_X9_failedCommand l hl0 g (xb g r T ++ (outs g q1 q2 o d ++ Y)) r b H.size n M hf) w_1631 w_1632 w_1633 w_119 w_1634 ⟨rfl, rfl⟩ hd_X9_failedCommand ⟨Nat.le_of_ble_eq_true rfl, Nat.le_of_ble_eq_true rfl⟩ (kdlt0 (rfl : kdI 0 = 0)) (shI_0 (rfl : kdI 0 = 0) _) rfl rfl rfl hl.1 rfl (Nat.le_of_ble_eq_true rfl) dL_failedCommand_3 ⟨Nat.le_of_ble_eq_true rfl, Nat.le_of_ble_eq_true rfl⟩) (fun k H locs ce q9 e1 hI g1 g2 g3 => ?_) (fun v H locs e1 hI => ?_)
  · rcases hk k e1 with e
    · subst e
      refine vx_catch C0.2.2.2.1 (tableOf []) ⟨0, 8, 11, 38⟩ (tableOf []) hTB (fun z hz => nomatch hz) (by decide) (by decide) (C0.2.2.2.2 _ w_888) (va_Nw.use rfl (C1.2.2.2.2.2.1 _ (List.mem_of_getElem? (i := 4) rfl))) g1 g2 g3 ?_
      refine lv_astore_n (lv' := [(2, .ref q9), (0, .ref (b 0)), (1, .ref q1)]) C0.1 C0.2.1 dL_failedCommand_11 rfl hl (by decide) rfl (fun ls hl => ?_)
      refine lv_iconst (v := 1) C0.1 C0.2.1 dL_failedCommand_12 (by decide) ?_
      exact e_h C0 rfl hI hr hlocks (by rw [cxl e1]; decide) (by rw [oul e1]) rfl dL_failedCommand_13
  · refine lv_i2l C0.1 C0.2.1 dL_failedCommand_6 rfl ?_
    refine o_last (W1 := xb g r T) 2 rfl C0 C1 hI dL_failedCommand_7 (fun H locs eA C1 hI => ?_)
    refine lv_goto (tgt := 14) C0.1 C0.2.1 dL_failedCommand_8 (by decide) ?_
    refine lv_iconst (v := 0) C0.1 C0.2.1 dL_failedCommand_14 (by decide) ?_
    exact e_h C0 eA hI hr hlocks (cxr e1).symm (by rw [our (f := ciI) e1]) rfl dL_failedCommand_15

theorem hd_L_describeList : yL_describeList.cls ≠ "java/lang/invoke/MethodHandle" ∧ yL_describeList.cls ≠ "java/lang/invoke/VarHandle" ∧ (parseMethodDescriptor yL_describeList.desc).map (fun d => d.parameters.length) = some 3 := ⟨by decide +kernel, by decide +kernel, by decide +kernel⟩
set_option maxHeartbeats 4000000 in
theorem h_describeList (l : Launch) (hl0 : l.stackTraces = false) (g : GG) (Y : va_W) (r b : Nat → Nat) (sz n : Nat) (T M : Mem) (q1 q2 : Nat) (o : Nat → Int64) (d : Nat → UInt64) (x1 : Int32) {q0 : RX Int32} {T' : Mem} {M' : Mem} (hf : Fg_X9_describeList n T x1 M = some (q0, T', M')) (hk : ∀ k, q0 = .inl k → k = 2) (hT : ∀ k, q0 = .inl k → T' = T) : Met l yL_describeList (.codeWith yL_describeList method_41_code 4 (some .int) [(0, 9, 12, 13)] :: LWg) (rmD 12 40 3200) (va_Pc [.ref (b 0), .int x1, .ref q1] (PreP g (xb g r T ++ (outs g q1 q2 o d ++ Y)) 372 (shI g r b) b sz M)) (va_Qi (fun res (_ : Unit) => res = cx [2] q0) (fun _ t => PoH g Y (AA (xb g r T ++ (outs g q1 q2 o d ++ Y)) b 372 sz) b sz q1 q2 (ou ciI o q0) d T' M' t) (AA (xb g r T ++ (outs g q1 q2 o d ++ Y)) b 372 sz)) 40 3200 (AA (xb g r T ++ (outs g q1 q2 o d ++ Y)) b 372 sz) := by
  refine metH_go (by decide +kernel) rfl (Nat.le_of_ble_eq_true rfl) ?_
  intro p e s m below meth c ls H locs C0 C1 hr hlocks hTB hsz hl hI
  subst hsz
  have hl : lv_has ls 4 [(0, .ref (b 0)), (1, .int x1), (2, .ref q1)] := hl
  have hG := GX.go C1
  refine lv_aload_n C0.1 C0.2.1 dL_describeList_0 rfl (lv_at hl 2 rfl) ?_
  refine lv_iconst (v := 0) C0.1 C0.2.1 dL_describeList_1 (by decide) ?_
  refine lv_aload_n C0.1 C0.2.1 dL_describeList_2 rfl (lv_at hl 0 rfl) ?_
  refine lv_iload_n C0.1 C0.2.1 dL_describeList_3 rfl (lv_at hl 1 rfl) ?_
  refine kxg_i hG hI (qx_V (As := [.int x1]) C0 C1 hI 0 (cg_X9_describeList l hl0 g (outs g q1 q2 o d ++ Y) r b H.size n M T x1 hf) w_1639 w_1640 w_1641 w_119 w_1642 ⟨rfl, rfl⟩ hd_X9_describeList ⟨Nat.le_of_ble_eq_true rfl, Nat.le_of_ble_eq_true rfl⟩ (kdlt0 (rfl : kdI 0 = 0)) (shI_0 (rfl : kdI 0 = 0) _) rfl rfl rfl hl.1 rfl (Nat.le_of_ble_eq_true rfl) dL_describeList_4 ⟨Nat.le_of_ble_eq_true rfl, Nat.le_of_ble_eq_true rfl⟩) (fun k H locs ce q9 e1 hI g1 g2 g3 => ?_) (fun v r' X' H locs e1 hG hI => ?_)
  · rcases hk k e1 with e
    · subst e
      refine vx_catch C0.2.2.2.1 (tableOf []) ⟨0, 9, 12, 13⟩ (tableOf []) hTB (fun z hz => nomatch hz) (by decide) (by decide) (C0.2.2.2.2 _ w_749) (va_Nw.use rfl (C1.2.2.2.2.2.1 _ (List.mem_of_getElem? (i := 0) rfl))) g1 g2 g3 ?_
      refine lv_astore_n (lv' := [(3, .ref q9), (0, .ref (b 0)), (1, .int x1), (2, .ref q1)]) C0.1 C0.2.1 dL_describeList_12 rfl hl (by decide) rfl (fun ls hl => ?_)
      refine lv_iconst (v := 1) C0.1 C0.2.1 dL_describeList_13 (by decide) ?_
      exact e_hgl C0 C1 hI hr hlocks (by rw [cxl e1]; decide) (oul e1) rfl (hT _ e1) dL_describeList_14
  · refine lv_i2l C0.1 C0.2.1 dL_describeList_7 rfl ?_
    refine og_last C0 hG hI dL_describeList_8 (fun H locs hG hI => ?_)
    refine lv_goto (tgt := 15) C0.1 C0.2.1 dL_describeList_9 (by decide) ?_
    refine lv_iconst (v := 0) C0.1 C0.2.1 dL_describeList_15 (by decide) ?_
    exact e_hgr C0 hG hI hr hlocks (cxr e1).symm (our (f := ciI) e1) dL_describeList_16

theorem hd_L_lineAt : yL_lineAt.cls ≠ "java/lang/invoke/MethodHandle" ∧ yL_lineAt.cls ≠ "java/lang/invoke/VarHandle" ∧ (parseMethodDescriptor yL_lineAt.desc).map (fun d => d.parameters.length) = some 3 := ⟨by decide +kernel, by decide +kernel, by decide +kernel⟩
set_option maxHeartbeats 4000000 in
theorem h_lineAt (l : Launch) (hl0 : l.stackTraces = false) (g : GG) (Y : va_W) (r b : Nat → Nat) (sz n : Nat) (T M : Mem) (q1 q2 : Nat) (o : Nat → Int64) (d : Nat → UInt64) (x1 : Int32) {q0 : RX Int32} (hf : F_X9_lineAt n T x1 M = some q0) (hk : ∀ k, q0 = .inl k → k = 2) : Met l yL_lineAt (.codeWith yL_lineAt method_42_code 4 (some .int) [(0, 9, 12, 13)] :: LWg) (rmD 9 1 6) (va_Pc [.ref (b 0), .int x1, .ref q1] (PreP g (xb g r T ++ (outs g q1 q2 o d ++ Y)) 372 (shI g r b) b sz M)) (va_Qi (fun res (_ : Unit) => res = cx [2] q0) (fun _ t => PoP g (xb g r T ++ (outs g q1 q2 (ou ciI o q0) d ++ Y)) 372 (shI g r b) b M t) (AA (xb g r T ++ (outs g q1 q2 o d ++ Y)) b 372 sz)) 1 6 (AA (xb g r T ++ (outs g q1 q2 o d ++ Y)) b 372 sz) := by
  refine metH_go (by decide +kernel) rfl (Nat.le_of_ble_eq_true rfl) ?_
  intro p e s m below meth c ls H locs C0 C1 hr hlocks hTB hsz hl hI
  subst hsz
  have hl : lv_has ls 4 [(0, .ref (b 0)), (1, .int x1), (2, .ref q1)] := hl
  refine lv_aload_n C0.1 C0.2.1 dL_lineAt_0 rfl (lv_at hl 2 rfl) ?_
  refine lv_iconst (v := 0) C0.1 C0.2.1 dL_lineAt_1 (by decide) ?_
  refine lv_aload_n C0.1 C0.2.1 dL_lineAt_2 rfl (lv_at hl 0 rfl) ?_
  refine lv_iload_n C0.1 C0.2.1 dL_lineAt_3 rfl (lv_at hl 1 rfl) ?_
  refine kx_i C1 hI (qx_V (As := [.int x1]) C0 C1 hI 0 (c_X9_lineAt l hl0 g (outs g q1 q2 o d ++ Y) r b H.size n M T x1 hf) w_1647 w_1648 w_1649 w_119 w_1650 ⟨rfl, rfl⟩ hd_X9_lineAt ⟨Nat.le_of_ble_eq_true rfl, Nat.le_of_ble_eq_true rfl⟩ (kdlt0 (rfl : kdI 0 = 0)) (shI_0 (rfl : kdI 0 = 0) _) rfl rfl rfl hl.1 rfl (Nat.le_of_ble_eq_true rfl) dL_lineAt_4 ⟨Nat.le_of_ble_eq_true rfl, Nat.le_of_ble_eq_true rfl⟩) (fun k H locs ce q9 e1 hI g1 g2 g3 => ?_) (fun v H locs e1 hI => ?_)
  · rcases hk k e1 with e
    · subst e
      refine vx_catch C0.2.2.2.1 (tableOf []) ⟨0, 9, 12, 13⟩ (tableOf []) hTB (fun z hz => nomatch hz) (by decide) (by decide) (C0.2.2.2.2 _ w_749) (va_Nw.use rfl (C1.2.2.2.2.2.1 _ (List.mem_of_getElem? (i := 0) rfl))) g1 g2 g3 ?_
      refine lv_astore_n (lv' := [(3, .ref q9), (0, .ref (b 0)), (1, .int x1), (2, .ref q1)]) C0.1 C0.2.1 dL_lineAt_12 rfl hl (by decide) rfl (fun ls hl => ?_)
      refine lv_iconst (v := 1) C0.1 C0.2.1 dL_lineAt_13 (by decide) ?_
      exact e_h C0 rfl hI hr hlocks (by rw [cxl e1]; decide) (by rw [oul e1]) rfl dL_lineAt_14
  · refine lv_i2l C0.1 C0.2.1 dL_lineAt_7 rfl ?_
    refine o_last (W1 := xb g r T) 2 rfl C0 C1 hI dL_lineAt_8 (fun H locs eA C1 hI => ?_)
    refine lv_goto (tgt := 15) C0.1 C0.2.1 dL_lineAt_9 (by decide) ?_
    refine lv_iconst (v := 0) C0.1 C0.2.1 dL_lineAt_15 (by decide) ?_
    exact e_h C0 eA hI hr hlocks (cxr e1).symm (by rw [our (f := ciI) e1]) rfl dL_lineAt_16

theorem hd_L_meanSittingWeight : yL_meanSittingWeight.cls ≠ "java/lang/invoke/MethodHandle" ∧ yL_meanSittingWeight.cls ≠ "java/lang/invoke/VarHandle" ∧ (parseMethodDescriptor yL_meanSittingWeight.desc).map (fun d => d.parameters.length) = some 2 := ⟨by decide +kernel, by decide +kernel, by decide +kernel⟩
set_option maxHeartbeats 4000000 in
theorem h_meanSittingWeight (l : Launch) (hl0 : l.stackTraces = false) (g : GG) (Y : va_W) (r b : Nat → Nat) (sz n : Nat) (T M : Mem) (q1 q2 : Nat) (o : Nat → Int64) (d : Nat → UInt64) {q0 : RX UInt64} (hf : F_X9_meanSittingWeight n M = some q0) (hk : ∀ k, q0 = .inl k → k = 3) : Met l yL_meanSittingWeight (.codeWith yL_meanSittingWeight method_43_code 3 (some .int) [(0, 7, 10, 127)] :: LWg) (rmD 9 1 6) (va_Pc [.ref (b 0), .ref q2] (PreP g (xb g r T ++ (outs g q1 q2 o d ++ Y)) 372 (shI g r b) b sz M)) (va_Qi (fun res (_ : Unit) => res = cx [3] q0) (fun _ t => PoP g (xb g r T ++ (outs g q1 q2 o (od (fun v => v) d q0) ++ Y)) 372 (shI g r b) b M t) (AA (xb g r T ++ (outs g q1 q2 o d ++ Y)) b 372 sz)) 1 6 (AA (xb g r T ++ (outs g q1 q2 o d ++ Y)) b 372 sz) := by
  refine metH_go (by decide +kernel) rfl (Nat.le_of_ble_eq_true rfl) ?_
  intro p e s m below meth c ls H locs C0 C1 hr hlocks hTB hsz hl hI
  subst hsz
  have hl : lv_has ls 3 [(0, .ref (b 0)), (1, .ref q2)] := hl
  refine lv_aload_n C0.1 C0.2.1 dL_meanSittingWeight_0 rfl (lv_at hl 1 rfl) ?_
  refine lv_iconst (v := 0) C0.1 C0.2.1 dL_meanSittingWeight_1 (by decide) ?_
  refine lv_aload_n C0.1 C0.2.1 dL_meanSittingWeight_2 rfl (lv_at hl 0 rfl) ?_
  refine kx_d C1 hI (qx_V (As := []) C0 C1 hI 0 (c_X9_meanSittingWeight l hl0 g (xb g r T ++ (outs g q1 q2 o d ++ Y)) r b H.size n M hf) w_1656 w_1657 w_1658 w_119 w_1659 ⟨rfl, rfl⟩ hd_X9_meanSittingWeight ⟨Nat.le_of_ble_eq_true rfl, Nat.le_of_ble_eq_true rfl⟩ (kdlt0 (rfl : kdI 0 = 0)) (shI_0 (rfl : kdI 0 = 0) _) rfl rfl rfl hl.1 rfl (Nat.le_of_ble_eq_true rfl) dL_meanSittingWeight_3 ⟨Nat.le_of_ble_eq_true rfl, Nat.le_of_ble_eq_true rfl⟩) (fun k H locs ce q9 e1 hI g1 g2 g3 => ?_) (fun v H locs e1 hI => ?_)
  · rcases hk k e1 with e
    · subst e
      refine vx_catch C0.2.2.2.1 (tableOf []) ⟨0, 7, 10, 127⟩ (tableOf []) hTB (fun z hz => nomatch hz) (by decide) (by decide) (C0.2.2.2.2 _ w_1202) (va_Nw.use rfl (C1.2.2.2.2.2.1 _ (List.mem_of_getElem? (i := 6) rfl))) g1 g2 g3 ?_
      refine lv_astore_n (lv' := [(2, .ref q9), (0, .ref (b 0)), (1, .ref q2)]) C0.1 C0.2.1 dL_meanSittingWeight_10 rfl hl (by decide) rfl (fun ls hl => ?_)
      refine lv_iconst (v := 1) C0.1 C0.2.1 dL_meanSittingWeight_11 (by decide) ?_
      exact e_h C0 rfl hI hr hlocks (by rw [cxl e1]; decide) (by rw [odl e1]) rfl dL_meanSittingWeight_12
  · skip
    refine o_dast (W1 := xb g r T) 2 rfl C0 C1 hI dL_meanSittingWeight_6 (fun H locs eA C1 hI => ?_)
    refine lv_goto (tgt := 13) C0.1 C0.2.1 dL_meanSittingWeight_7 (by decide) ?_
    refine lv_iconst (v := 0) C0.1 C0.2.1 dL_meanSittingWeight_13 (by decide) ?_
    exact e_h C0 eA hI hr hlocks (cxr e1).symm (by rw [odr (f := fun v => v) e1]) rfl dL_meanSittingWeight_14

theorem hd_L_undo : yL_undo.cls ≠ "java/lang/invoke/MethodHandle" ∧ yL_undo.cls ≠ "java/lang/invoke/VarHandle" ∧ (parseMethodDescriptor yL_undo.desc).map (fun d => d.parameters.length) = some 2 := ⟨by decide +kernel, by decide +kernel, by decide +kernel⟩
set_option maxHeartbeats 4000000 in
theorem h_undo (l : Launch) (hl0 : l.stackTraces = false) (g : GG) (Y : va_W) (r b : Nat → Nat) (sz n : Nat) (T M : Mem) (q1 q2 : Nat) (o : Nat → Int64) (d : Nat → UInt64) {q0 : RX Int32} {M' : Mem} (hf : F_X9_undo n M = some (q0, M')) (hk : ∀ k, q0 = .inl k → k = 0) : Met l yL_undo (.codeWith yL_undo method_44_code 3 (some .int) [(0, 8, 11, 17)] :: LWg) (rmD 9 1 6) (va_Pc [.ref (b 0), .ref q1] (PreP g (xb g r T ++ (outs g q1 q2 o d ++ Y)) 372 (shI g r b) b sz M)) (va_Qi (fun res (_ : Unit) => res = cx [0] q0) (fun _ t => PoP g (xb g r T ++ (outs g q1 q2 (ou ciI o q0) d ++ Y)) 372 (shI g r b) b M' t) (AA (xb g r T ++ (outs g q1 q2 o d ++ Y)) b 372 sz)) 1 6 (AA (xb g r T ++ (outs g q1 q2 o d ++ Y)) b 372 sz) := by
  refine metH_go (by decide +kernel) rfl (Nat.le_of_ble_eq_true rfl) ?_
  intro p e s m below meth c ls H locs C0 C1 hr hlocks hTB hsz hl hI
  subst hsz
  have hl : lv_has ls 3 [(0, .ref (b 0)), (1, .ref q1)] := hl
  refine lv_aload_n C0.1 C0.2.1 dL_undo_0 rfl (lv_at hl 1 rfl) ?_
  refine lv_iconst (v := 0) C0.1 C0.2.1 dL_undo_1 (by decide) ?_
  refine lv_aload_n C0.1 C0.2.1 dL_undo_2 rfl (lv_at hl 0 rfl) ?_
  refine kx_i C1 hI (qx_V (As := []) C0 C1 hI 0 (c_X9_undo l hl0 g (xb g r T ++ (outs g q1 q2 o d ++ Y)) r b H.size n M hf) w_1664 w_1665 w_1666 w_119 w_1667 ⟨rfl, rfl⟩ hd_X9_undo ⟨Nat.le_of_ble_eq_true rfl, Nat.le_of_ble_eq_true rfl⟩ (kdlt0 (rfl : kdI 0 = 0)) (shI_0 (rfl : kdI 0 = 0) _) rfl rfl rfl hl.1 rfl (Nat.le_of_ble_eq_true rfl) dL_undo_3 ⟨Nat.le_of_ble_eq_true rfl, Nat.le_of_ble_eq_true rfl⟩) (fun k H locs ce q9 e1 hI g1 g2 g3 => ?_) (fun v H locs e1 hI => ?_)
  · rcases hk k e1 with e
    · subst e
      refine vx_catch C0.2.2.2.1 (tableOf []) ⟨0, 8, 11, 17⟩ (tableOf []) hTB (fun z hz => nomatch hz) (by decide) (by decide) (C0.2.2.2.2 _ w_771) (va_Nw.use rfl (C1.2.2.2.2.2.1 _ (List.mem_of_getElem? (i := 2) rfl))) g1 g2 g3 ?_
      refine lv_astore_n (lv' := [(2, .ref q9), (0, .ref (b 0)), (1, .ref q1)]) C0.1 C0.2.1 dL_undo_11 rfl hl (by decide) rfl (fun ls hl => ?_)
      refine lv_iconst (v := 1) C0.1 C0.2.1 dL_undo_12 (by decide) ?_
      exact e_h C0 rfl hI hr hlocks (by rw [cxl e1]; decide) (by rw [oul e1]) rfl dL_undo_13
  · refine lv_i2l C0.1 C0.2.1 dL_undo_6 rfl ?_
    refine o_last (W1 := xb g r T) 2 rfl C0 C1 hI dL_undo_7 (fun H locs eA C1 hI => ?_)
    refine lv_goto (tgt := 14) C0.1 C0.2.1 dL_undo_8 (by decide) ?_
    refine lv_iconst (v := 0) C0.1 C0.2.1 dL_undo_14 (by decide) ?_
    exact e_h C0 eA hI hr hlocks (cxr e1).symm (by rw [our (f := ciI) e1]) rfl dL_undo_15

theorem hd_L_restore : yL_restore.cls ≠ "java/lang/invoke/MethodHandle" ∧ yL_restore.cls ≠ "java/lang/invoke/VarHandle" ∧ (parseMethodDescriptor yL_restore.desc).map (fun d => d.parameters.length) = some 2 := ⟨by decide +kernel, by decide +kernel, by decide +kernel⟩
set_option maxHeartbeats 4000000 in
theorem h_restore (l : Launch) (hl0 : l.stackTraces = false) (g : GG) (Y : va_W) (r b : Nat → Nat) (sz n : Nat) (T M : Mem) (q1 q2 : Nat) (o : Nat → Int64) (d : Nat → UInt64) {q0 : RX Int32} {M' : Mem} (hf : F_X9_restore n M = some (q0, M')) (hk : ∀ k, q0 = .inl k → k = 0) : Met l yL_restore (.codeWith yL_restore method_45_code 3 (some .int) [(0, 8, 11, 17)] :: LWg) (rmD 9 1 6) (va_Pc [.ref (b 0), .ref q1] (PreP g (xb g r T ++ (outs g q1 q2 o d ++ Y)) 372 (shI g r b) b sz M)) (va_Qi (fun res (_ : Unit) => res = cx [0] q0) (fun _ t => PoP g (xb g r T ++ (outs g q1 q2 (ou ciI o q0) d ++ Y)) 372 (shI g r b) b M' t) (AA (xb g r T ++ (outs g q1 q2 o d ++ Y)) b 372 sz)) 1 6 (AA (xb g r T ++ (outs g q1 q2 o d ++ Y)) b 372 sz) := by
  refine metH_go (by decide +kernel) rfl (Nat.le_of_ble_eq_true rfl) ?_
  intro p e s m below meth c ls H locs C0 C1 hr hlocks hTB hsz hl hI
  subst hsz
  have hl : lv_has ls 3 [(0, .ref (b 0)), (1, .ref q1)] := hl
  refine lv_aload_n C0.1 C0.2.1 dL_restore_0 rfl (lv_at hl 1 rfl) ?_
  refine lv_iconst (v := 0) C0.1 C0.2.1 dL_restore_1 (by decide) ?_
  refine lv_aload_n C0.1 C0.2.1 dL_restore_2 rfl (lv_at hl 0 rfl) ?_
  refine kx_i C1 hI (qx_V (As := []) C0 C1 hI 0 (c_X9_restore l hl0 g (xb g r T ++ (outs g q1 q2 o d ++ Y)) r b H.size n M hf) w_1676 w_1677 w_1678 w_119 w_1679 ⟨rfl, rfl⟩ hd_X9_restore ⟨Nat.le_of_ble_eq_true rfl, Nat.le_of_ble_eq_true rfl⟩ (kdlt0 (rfl : kdI 0 = 0)) (shI_0 (rfl : kdI 0 = 0) _) rfl rfl rfl hl.1 rfl (Nat.le_of_ble_eq_true rfl) dL_restore_3 ⟨Nat.le_of_ble_eq_true rfl, Nat.le_of_ble_eq_true rfl⟩) (fun k H locs ce q9 e1 hI g1 g2 g3 => ?_) (fun v H locs e1 hI => ?_)
  · rcases hk k e1 with e
    · subst e
      refine vx_catch C0.2.2.2.1 (tableOf []) ⟨0, 8, 11, 17⟩ (tableOf []) hTB (fun z hz => nomatch hz) (by decide) (by decide) (C0.2.2.2.2 _ w_771) (va_Nw.use rfl (C1.2.2.2.2.2.1 _ (List.mem_of_getElem? (i := 2) rfl))) g1 g2 g3 ?_
      refine lv_astore_n (lv' := [(2, .ref q9), (0, .ref (b 0)), (1, .ref q1)]) C0.1 C0.2.1 dL_restore_11 rfl hl (by decide) rfl (fun ls hl => ?_)
      refine lv_iconst (v := 1) C0.1 C0.2.1 dL_restore_12 (by decide) ?_
      exact e_h C0 rfl hI hr hlocks (by rw [cxl e1]; decide) (by rw [oul e1]) rfl dL_restore_13
  · refine lv_i2l C0.1 C0.2.1 dL_restore_6 rfl ?_
    refine o_last (W1 := xb g r T) 2 rfl C0 C1 hI dL_restore_7 (fun H locs eA C1 hI => ?_)
    refine lv_goto (tgt := 14) C0.1 C0.2.1 dL_restore_8 (by decide) ?_
    refine lv_iconst (v := 0) C0.1 C0.2.1 dL_restore_14 (by decide) ?_
    exact e_h C0 eA hI hr hlocks (cxr e1).symm (by rw [our (f := ciI) e1]) rfl dL_restore_15
