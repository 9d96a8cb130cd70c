/-! ===== methods that return or throw ===== -/
theorem obx_x {α β : Type} {x : Option (RX α)} {f : α → Option (RX β)} {r : RX β} (h : obx x f = some r) : ∃ q, x = some q ∧ (∀ e, q = .inl e → r = .inl e) ∧ (∀ a, q = .inr a → f a = some r) := obx_some h
theorem obx_p {α β : Type} {x : Option (RX α)} {f : α → Option (RX β)} {v : β} (h : obx x f = some (.inr v)) : ∃ a, x = some (.inr a) ∧ f a = some (.inr v) := by
  obtain ⟨q, h1, h2, h3⟩ := obx_some h
  cases q with
  | inl k => exact nomatch h2 k rfl
  | inr a => exact ⟨a, h1, h3 a rfl⟩
theorem obxr_x {α β : Type} {x : Option (RX α)} {M M' : Mem} {f : α → Option (RX β × Mem)} {r : RX β} (h : obxr x M f = some (r, M')) : ∃ q, x = some q ∧ (∀ e, q = .inl e → r = .inl e ∧ M = M') ∧ (∀ a, q = .inr a → f a = some (r, M')) := by
  obtain ⟨q, h1, h2, h3⟩ := obxr_some h
  exact ⟨q, h1, fun e he => by have h9 := h2 e he; cases h9; exact ⟨rfl, rfl⟩, h3⟩
theorem obxr_p {α β : Type} {x : Option (RX α)} {M M' : Mem} {f : α → Option (RX β × Mem)} {v : β} (h : obxr x M f = some (.inr v, M')) : ∃ a, x = some (.inr a) ∧ f a = some (.inr v, M') := by
  obtain ⟨q, h1, h2, h3⟩ := obxr_x h
  cases q with
  | inl k => exact nomatch (h2 k rfl).1
  | inr a => exact ⟨a, h1, h3 a rfl⟩
theorem obx2_x {α β : Type} {x : Option (RX α × Mem)} {M' : Mem} {f : α → Mem → Option (RX β × Mem)} {r : RX β} (h : obx2 x f = some (r, M')) : ∃ q M1, x = some (q, M1) ∧ (∀ e, q = .inl e → r = .inl e ∧ M1 = M') ∧ (∀ a, q = .inr a → f a M1 = some (r, M')) := by
  obtain ⟨q, M1, h1, h2, h3⟩ := obx2_some h
  exact ⟨q, M1, h1, fun e he => by have h9 := h2 e he; cases h9; exact ⟨rfl, rfl⟩, h3⟩
theorem obx2_p {α β : Type} {x : Option (RX α × Mem)} {M' : Mem} {f : α → Mem → Option (RX β × Mem)} {v : β} (h : obx2 x f = some (.inr v, M')) : ∃ a M1, x = some (.inr a, M1) ∧ f a M1 = some (.inr v, M') := by
  obtain ⟨q, M1, h1, h2, h3⟩ := obx2_x h
  cases q with
  | inl k => exact nomatch (h2 k rfl).1
  | inr a => exact ⟨a, M1, h1, h3 a rfl⟩
section THROWS
variable {p : Program} {l : Launch} {e : Env} {R : Room} {s : State} {m : MethodId} {args : Array Value} {below : List Frame} {meth : Method} {c : Code} {H : Heap} {locs : List Loc} {cells slots : Nat} {Q : State → Prop}
variable {cc : ByteArray} {nL : Nat} {own : String} {pc : Nat} {ls : Array Slot} {rest st0 : List Value} {g : GG} {X : va_W} {N : Nat} {sh : Shp} {b : Nat → Nat} {M M' : Mem} {mc ms : Nat} {av : Array Value}
abbrev QiX (g : GG) (X : va_W) (N : Nat) (sh : Shp) (b : Nat → Nat) (sz : Nat) (q0 : RX Int32) (M' : Mem) : Array Value → State → Outcome → State → Prop := va_Qi (fun r (_ : Unit) => q0 = .inr r) (fun _ t => PoP g X N sh b M' t) (AA X b N sz)
abbrev QvX (g : GG) (X : va_W) (N : Nat) (sh : Shp) (b : Nat → Nat) (sz : Nat) (q0 : RX Unit) (M' : Mem) : Array Value → State → Outcome → State → Prop := va_Qv (fun (_ : Unit) => q0 = .inr ()) (fun _ t => PoP g X N sh b M' t) (AA X b N sz)
abbrev XcX {α : Type} (g : GG) (X : va_W) (N : Nat) (sh : Shp) (b : Nat → Nat) (sz : Nat) (q0 : RX α) (M' : Mem) : String → State → State → Prop := vx_X (fun (_ : Unit) => True) (fun E _ t => (∃ k, q0 = .inl k ∧ E = exN k) ∧ PoP g X N sh b M' t) (AA X b N sz)
theorem kx_i (C1 : CX g X N sh b s) (hI : PI g X N sh b s M H locs) {q0 : RX Int32} (run : vx_Run p l e R s m args below meth c H locs cells slots mc ms (F0 m pc ls st0) rest (QiX g X N sh b H.size q0 M' av) (XcX g X N sh b H.size q0 M') (AA X b N H.size))
    (kx : ∀ (k : Nat) (H : Heap) (locs : List Loc) (ce : Cell) (q9 : Addr), q0 = .inl k → PI g X N sh b s M' H locs → H[q9]? = some ce → ce.vm = .none → s.vm.findClass (exN k) = some ce.cls → vx_W p l e R s m args below meth c H locs (cells + mc) (slots + ms) Q (F0 m pc ls rest) q9)
    (kk : ∀ (r : Int32) (H : Heap) (locs : List Loc), q0 = .inr r → PI g X N sh b s M' H locs → W p l e R s m args below meth c H locs (cells + mc) (slots + ms) Q (F0 m (pc + 3) ls (.int r :: rest))) : W p l e R s m args below meth c H locs cells slots Q (F0 m pc ls st0) :=
  vx_calli run hI.2 (fun q _ h => CX.fr hI q h) (CX.fr hI) (fun q _ h => CX.fr hI q h)
    (fun E ce q9 u t H1 locs1 ht hvm hp hb hz hk hS h1 h2 h3 => by obtain ⟨⟨k, e1, rfl⟩, hb⟩ := hb; exact kx k H1 locs1 ce q9 e1 ⟨by rw [← ht]; exact hb, hS⟩ h1 h2 h3)
    (fun r u t H1 locs1 ht hvm hp hb hz hk hS => kk r H1 locs1 hp ⟨by rw [← ht]; exact hb, hS⟩)
theorem kx_v (C1 : CX g X N sh b s) (hI : PI g X N sh b s M H locs) {q0 : RX Unit} (run : vx_Run p l e R s m args below meth c H locs cells slots mc ms (F0 m pc ls st0) rest (QvX g X N sh b H.size q0 M' av) (XcX g X N sh b H.size q0 M') (AA X b N H.size))
    (kx : ∀ (k : Nat) (H : Heap) (locs : List Loc) (ce : Cell) (q9 : Addr), q0 = .inl k → PI g X N sh b s M' H locs → H[q9]? = some ce → ce.vm = .none → s.vm.findClass (exN k) = some ce.cls → vx_W p l e R s m args below meth c H locs (cells + mc) (slots + ms) Q (F0 m pc ls rest) q9)
    (kk : ∀ (r : Unit) (H : Heap) (locs : List Loc), q0 = .inr r → PI g X N sh b s M' H locs → W p l e R s m args below meth c H locs (cells + mc) (slots + ms) Q (F0 m (pc + 3) ls rest)) : W p l e R s m args below meth c H locs cells slots Q (F0 m pc ls st0) :=
  vx_callv run hI.2 (fun q _ h => CX.fr hI q h) (CX.fr hI) (fun q _ h => CX.fr hI q h)
    (fun E ce q9 u t H1 locs1 ht hvm hp hb hz hk hS h1 h2 h3 => by obtain ⟨⟨k, e1, rfl⟩, hb⟩ := hb; exact kx k H1 locs1 ce q9 e1 ⟨by rw [← ht]; exact hb, hS⟩ h1 h2 h3)
    (fun u t H1 locs1 ht hvm hp hb hz hk hS => kk () H1 locs1 hp ⟨by rw [← ht]; exact hb, hS⟩)
theorem x_outm {α : Type} {q0 : RX α} {Qc : Array Value → State → Outcome → State → Prop} {ce : Cell} {q9 : Addr} {k : Nat} (hno : ∀ x ∈ c.exceptionTable.toList, False) (hlocks : meth.locks = false) (hI : PI g X N sh b s M H locs) (g1 : H[q9]? = some ce) (g2 : ce.vm = .none) (g3 : s.vm.findClass (exN k) = some ce.cls) (hq : q0 = .inl k ∧ M = M') (hc : cells ≤ mc) (hs : slots ≤ ms) :
    vx_W p l e R s m args below meth c H locs cells slots (vx_MQ below Qc (XcX g X N sh b s.heap.size q0 M') args s mc ms (AA X b N s.heap.size)) (F0 m pc ls rest) q9 := by
  obtain ⟨hq, rfl⟩ := hq
  exact vx_out (fun x hx => (hno x hx).elim) hlocks g1 g2 g3 (fun t ht _ => ⟨(), trivial, ⟨⟨k, hq, rfl⟩, by show va_P _ _ _ t.heap; rw [ht]; exact hI.1⟩, hI.2.F ht⟩) hI.2.2.2 hc hs
theorem x_out {α : Type} {q0 : RX α} {Qc : Array Value → State → Outcome → State → Prop} {ce : Cell} {q9 : Addr} {k : Nat} (hno : ∀ x ∈ c.exceptionTable.toList, False) (hlocks : meth.locks = false) (hI : PI g X N sh b s M H locs) (g1 : H[q9]? = some ce) (g2 : ce.vm = .none) (g3 : s.vm.findClass (exN k) = some ce.cls) (hq : q0 = .inl k) (hc : cells ≤ mc) (hs : slots ≤ ms) :
    vx_W p l e R s m args below meth c H locs cells slots (vx_MQ below Qc (XcX g X N sh b s.heap.size q0 M) args s mc ms (AA X b N s.heap.size)) (F0 m pc ls rest) q9 := x_outm hno hlocks hI g1 g2 g3 ⟨hq, rfl⟩ hc hs
/-! ends of such a method -/
theorem ex_zm {q0 : RX Int32} {XC : String → State → State → Prop} (C0 : CallFix p m c cc nL s args LWg own) (hI : PI g X N sh b s M H locs) {ty : FieldType} (hr : meth.sig.returnType = some ty) (hlocks : meth.locks = false) {v : Int32} (hn : narrow ty (.int v) = .int v) (hf : some ((.inr v : RX Int32), M) = some (q0, M')) (hdg : decode cc pc = .ok (.ireturn, 1)) : W p l e R s m args below meth c H locs cells slots (vx_MQ below (QiX g X N sh b s.heap.size q0 M') XC args s cells slots (AA X b N s.heap.size)) (F0 m pc ls [.int v]) := by
  cases hf
  exact vx_ret (W.zret C0.1 C0.2.1 hr hn (fun t ht hW => ⟨⟨v, (), rfl, rfl, by show va_P _ _ _ t.heap; rw [ht]; exact hI.1⟩, hI.2.F ht⟩) hI.2.2.2 hdg hlocks)
theorem ex_z {q0 : RX Int32} {XC : String → State → State → Prop} (C0 : CallFix p m c cc nL s args LWg own) (hI : PI g X N sh b s M H locs) {ty : FieldType} (hr : meth.sig.returnType = some ty) (hlocks : meth.locks = false) {v : Int32} (hn : narrow ty (.int v) = .int v) (hf : some (.inr v : RX Int32) = some q0) (hdg : decode cc pc = .ok (.ireturn, 1)) : W p l e R s m args below meth c H locs cells slots (vx_MQ below (QiX g X N sh b s.heap.size q0 M) XC args s cells slots (AA X b N s.heap.size)) (F0 m pc ls [.int v]) := by
  cases hf
  exact ex_zm C0 hI hr hlocks hn rfl hdg
theorem ex_vm {q0 : RX Unit} {XC : String → State → State → Prop} (C0 : CallFix p m c cc nL s args LWg own) (hI : PI g X N sh b s M H locs) (hr : meth.sig.returnType = none) (hlocks : meth.locks = false) (hf : some ((.inr () : RX Unit), M) = some (q0, M')) (hdg : decode cc pc = .ok (.return_, 1)) : W p l e R s m args below meth c H locs cells slots (vx_MQ below (QvX g X N sh b s.heap.size q0 M') XC args s cells slots (AA X b N s.heap.size)) (F0 m pc ls []) := by
  cases hf
  exact vx_ret (W.vret C0.1 C0.2.1 hr (fun t ht hW => ⟨⟨(), rfl, rfl, by show va_P _ _ _ t.heap; rw [ht]; exact hI.1⟩, hI.2.F ht⟩) hI.2.2.2 hdg hlocks)
theorem ex_v {q0 : RX Unit} {XC : String → State → State → Prop} (C0 : CallFix p m c cc nL s args LWg own) (hI : PI g X N sh b s M H locs) (hr : meth.sig.returnType = none) (hlocks : meth.locks = false) (hf : some (.inr () : RX Unit) = some q0) (hdg : decode cc pc = .ok (.return_, 1)) : W p l e R s m args below meth c H locs cells slots (vx_MQ below (QvX g X N sh b s.heap.size q0 M) XC args s cells slots (AA X b N s.heap.size)) (F0 m pc ls []) := by
  cases hf
  exact ex_vm C0 hI hr hlocks rfl hdg
theorem ep_zm (C0 : CallFix p m c cc nL s args LWg own) (hI : PI g X N sh b s M H locs) {ty : FieldType} (hr : meth.sig.returnType = some ty) (hlocks : meth.locks = false) {v r0 : Int32} (hn : narrow ty (.int v) = .int v) (hf : some ((.inr v : RX Int32), M) = some (.inr r0, M')) (hdg : decode cc pc = .ok (.ireturn, 1)) : W p l e R s m args below meth c H locs cells slots (MQ below (Qi g X N sh b s.heap.size r0 M') args s cells slots (AA X b N s.heap.size)) (F0 m pc ls [.int v]) := by cases hf; exact e_z C0 hI hr hlocks hn hdg
theorem ep_z (C0 : CallFix p m c cc nL s args LWg own) (hI : PI g X N sh b s M H locs) {ty : FieldType} (hr : meth.sig.returnType = some ty) (hlocks : meth.locks = false) {v r0 : Int32} (hn : narrow ty (.int v) = .int v) (hf : some (.inr v : RX Int32) = some (.inr r0)) (hdg : decode cc pc = .ok (.ireturn, 1)) : W p l e R s m args below meth c H locs cells slots (MQ below (Qi g X N sh b s.heap.size r0 M) args s cells slots (AA X b N s.heap.size)) (F0 m pc ls [.int v]) := by cases hf; exact e_z C0 hI hr hlocks hn hdg
theorem ep_vm (C0 : CallFix p m c cc nL s args LWg own) (hI : PI g X N sh b s M H locs) (hr : meth.sig.returnType = none) (hlocks : meth.locks = false) (hf : some ((.inr () : RX Unit), M) = some (.inr (), M')) (hdg : decode cc pc = .ok (.return_, 1)) : W p l e R s m args below meth c H locs cells slots (MQ below (Qv g X N sh b s.heap.size M') args s cells slots (AA X b N s.heap.size)) (F0 m pc ls []) := by cases hf; exact e_v C0 hI hr hlocks hdg
theorem ep_v (C0 : CallFix p m c cc nL s args LWg own) (hI : PI g X N sh b s M H locs) (hr : meth.sig.returnType = none) (hlocks : meth.locks = false) (hf : some (.inr () : RX Unit) = some (.inr ())) (hdg : decode cc pc = .ok (.return_, 1)) : W p l e R s m args below meth c H locs cells slots (MQ below (Qv g X N sh b s.heap.size M) args s cells slots (AA X b N s.heap.size)) (F0 m pc ls []) := e_v C0 hI hr hlocks hdg
/-! throwing -/
theorem thr_post {α : Type} {q0 : RX α} (hI : PI g X N sh b s M H locs) {E : Nat} (hq : q0 = .inl E) {cls : String} (hE : exN E = cls) : ∀ t : State, s.vm.Alike t.vm → H.size ≤ t.heap.size → (∀ q : Nat, q < H.size → t.heap[q]? = H[q]?) → XcX g X N sh b s.heap.size q0 M cls s t := fun t _ hz hk =>
  ⟨(), trivial, ⟨⟨E, hq, hE.symm⟩, hI.1.kept (fun k q hq => hk q.1 ((hI.1 k q hq).lt))⟩, Nat.le_trans hI.2.1 hz, fun q h1 h2 => (hk q (Nat.lt_of_lt_of_le h1 hI.2.1)).trans (hI.2.2.1 q h1 h2)⟩
theorem r_throwWm {α : Type} {q0 : RX α} {Qc : Array Value → State → Outcome → State → Prop} (C0 : CallFix p m c cc nL s args LWg own) (C1 : CX g X N sh b s) (hI : PI g X N sh b s M H locs) (hl0 : l.stackTraces = false) (hls : ls.size = nL) (hno : ∀ x ∈ c.exceptionTable.toList, False) (hlocks : meth.locks = false) {E : Nat} {sk : Nat} {cls text : String} {names : List String} {ik is ic : Nat} (hE : exN E = cls) (hcls : Bundle.fit cls = true) (hnames : ∀ n ∈ names, Bundle.fit n = true)
    (hk : (.classLink own ik cls) ∈ LWg) (hini : (.initialized cls) ∈ LWg) (hat : (∀ w ∈ LWg, w.before args s = true) → NW s → ∀ w ∈ vx_atS own ic cls names, w.before args s = true) (hgood : ∀ w ∈ Cond.classLink own ik cls :: Cond.initialized cls :: vx_atS own ic cls names, vx_ot w = true)
    (d0 : decode cc pc = .ok (.new ik, 3)) (d3 : decode cc (pc + 3) = .ok (.dup, 1)) (d4 : decode cc (pc + 4) = .ok (.ldc_w is, 3)) (d7 : decode cc (pc + 7) = .ok (.invokespecial ic, 3)) (d10 : decode cc (pc + 10) = .ok (.athrow, 1))
    (hRf : names.length + 3 < R.frames) (hRl : (rest.map fun v => v.category).sum + (13 * (names.length + 1) + 43) ≤ R.locals) (hRc : cells + 1 ≤ R.cells) (hRs : slots + 6 ≤ R.slots) (hf : some ((.inl E : RX α), M) = some (q0, M')) (hc : cells + 1 ≤ mc) (hs : slots + 6 ≤ ms) (hsk : strL[sk]? = some (own, is, text) := by rfl) :
    W p l e R s m args below meth c H locs cells slots (vx_MQ below Qc (XcX g X N sh b s.heap.size q0 M') args s mc ms (AA X b N s.heap.size)) (F0 m pc ls rest) := by
  cases hf
  obtain ⟨sa, hsa⟩ := C1.2.2.2.2.2.2.2.2.2 _ (List.mem_of_getElem? hsk)
  exact vx_throwSW C0.1 C0.2.1 hl0 C0.2.2.2.1 hcls hnames (C0.2.2.2.2 _ hk) (C0.2.2.2.2 _ hini) hsa (hat C0.2.2.2.2 C1.2.2.2) hgood C1.2.2.1.2.2.2.2.2.2.2.2.2.2.1 C1.2.2.1.2.2.2.2.2.2.2.2.2.2.2.1 hI.2 (hls.trans C0.2.2.1.symm) d0 d3 d4 d7 d10 (fun x hx => (hno x hx).elim) hRf hRl hRc hRs hlocks (thr_post hI rfl hE) hI.2.2.2 hc hs
theorem r_throwSm {α : Type} {q0 : RX α} {Qc : Array Value → State → Outcome → State → Prop} (C0 : CallFix p m c cc nL s args LWg own) (C1 : CX g X N sh b s) (hI : PI g X N sh b s M H locs) (hl0 : l.stackTraces = false) (hls : ls.size = nL) (hno : ∀ x ∈ c.exceptionTable.toList, False) (hlocks : meth.locks = false) {E : Nat} {sk : Nat} {cls text : String} {names : List String} {ik is ic : Nat} (hE : exN E = cls) (hcls : Bundle.fit cls = true) (hnames : ∀ n ∈ names, Bundle.fit n = true)
    (hk : (.classLink own ik cls) ∈ LWg) (hini : (.initialized cls) ∈ LWg) (hat : (∀ w ∈ LWg, w.before args s = true) → NW s → ∀ w ∈ vx_atS own ic cls names, w.before args s = true) (hgood : ∀ w ∈ Cond.classLink own ik cls :: Cond.initialized cls :: vx_atS own ic cls names, vx_ot w = true)
    (d0 : decode cc pc = .ok (.new ik, 3)) (d3 : decode cc (pc + 3) = .ok (.dup, 1)) (d4 : decode cc (pc + 4) = .ok (.ldc is, 2)) (d6 : decode cc (pc + 6) = .ok (.invokespecial ic, 3)) (d9 : decode cc (pc + 9) = .ok (.athrow, 1))
    (hRf : names.length + 3 < R.frames) (hRl : (rest.map fun v => v.category).sum + (13 * (names.length + 1) + 43) ≤ R.locals) (hRc : cells + 1 ≤ R.cells) (hRs : slots + 6 ≤ R.slots) (hf : some ((.inl E : RX α), M) = some (q0, M')) (hc : cells + 1 ≤ mc) (hs : slots + 6 ≤ ms) (hsk : strL[sk]? = some (own, is, text) := by rfl) :
    W p l e R s m args below meth c H locs cells slots (vx_MQ below Qc (XcX g X N sh b s.heap.size q0 M') args s mc ms (AA X b N s.heap.size)) (F0 m pc ls rest) := by
  cases hf
  obtain ⟨sa, hsa⟩ := C1.2.2.2.2.2.2.2.2.2 _ (List.mem_of_getElem? hsk)
  exact vx_throwS C0.1 C0.2.1 hl0 C0.2.2.2.1 hcls hnames (C0.2.2.2.2 _ hk) (C0.2.2.2.2 _ hini) hsa (hat C0.2.2.2.2 C1.2.2.2) hgood C1.2.2.1.2.2.2.2.2.2.2.2.2.2.1 C1.2.2.1.2.2.2.2.2.2.2.2.2.2.2.1 hI.2 (hls.trans C0.2.2.1.symm) d0 d3 d4 d6 d9 (fun x hx => (hno x hx).elim) hRf hRl hRc hRs hlocks (thr_post hI rfl hE) hI.2.2.2 hc hs
theorem r_throwW {α : Type} {q0 : RX α} {Qc : Array Value → State → Outcome → State → Prop} (C0 : CallFix p m c cc nL s args LWg own) (C1 : CX g X N sh b s) (hI : PI g X N sh b s M H locs) (hl0 : l.stackTraces = false) (hls : ls.size = nL) (hno : ∀ x ∈ c.exceptionTable.toList, False) (hlocks : meth.locks = false) {E : Nat} {sk : Nat} {cls text : String} {names : List String} {ik is ic : Nat} (hE : exN E = cls) (hcls : Bundle.fit cls = true) (hnames : ∀ n ∈ names, Bundle.fit n = true)
    (hk : (.classLink own ik cls) ∈ LWg) (hini : (.initialized cls) ∈ LWg) (hat : (∀ w ∈ LWg, w.before args s = true) → NW s → ∀ w ∈ vx_atS own ic cls names, w.before args s = true) (hgood : ∀ w ∈ Cond.classLink own ik cls :: Cond.initialized cls :: vx_atS own ic cls names, vx_ot w = true)
    (d0 : decode cc pc = .ok (.new ik, 3)) (d3 : decode cc (pc + 3) = .ok (.dup, 1)) (d4 : decode cc (pc + 4) = .ok (.ldc_w is, 3)) (d7 : decode cc (pc + 7) = .ok (.invokespecial ic, 3)) (d10 : decode cc (pc + 10) = .ok (.athrow, 1))
    (hRf : names.length + 3 < R.frames) (hRl : (rest.map fun v => v.category).sum + (13 * (names.length + 1) + 43) ≤ R.locals) (hRc : cells + 1 ≤ R.cells) (hRs : slots + 6 ≤ R.slots) (hf : some (.inl E : RX α) = some q0) (hc : cells + 1 ≤ mc) (hs : slots + 6 ≤ ms) (hsk : strL[sk]? = some (own, is, text) := by rfl) :
    W p l e R s m args below meth c H locs cells slots (vx_MQ below Qc (XcX g X N sh b s.heap.size q0 M) args s mc ms (AA X b N s.heap.size)) (F0 m pc ls rest) := by
  cases hf
  obtain ⟨sa, hsa⟩ := C1.2.2.2.2.2.2.2.2.2 _ (List.mem_of_getElem? hsk)
  exact vx_throwSW C0.1 C0.2.1 hl0 C0.2.2.2.1 hcls hnames (C0.2.2.2.2 _ hk) (C0.2.2.2.2 _ hini) hsa (hat C0.2.2.2.2 C1.2.2.2) hgood C1.2.2.1.2.2.2.2.2.2.2.2.2.2.1 C1.2.2.1.2.2.2.2.2.2.2.2.2.2.2.1 hI.2 (hls.trans C0.2.2.1.symm) d0 d3 d4 d7 d10 (fun x hx => (hno x hx).elim) hRf hRl hRc hRs hlocks (thr_post hI rfl hE) hI.2.2.2 hc hs
theorem r_throwS {α : Type} {q0 : RX α} {Qc : Array Value → State → Outcome → State → Prop} (C0 : CallFix p m c cc nL s args LWg own) (C1 : CX g X N sh b s) (hI : PI g X N sh b s M H locs) (hl0 : l.stackTraces = false) (hls : ls.size = nL) (hno : ∀ x ∈ c.exceptionTable.toList, False) (hlocks : meth.locks = false) {E : Nat} {sk : Nat} {cls text : String} {names : List String} {ik is ic : Nat} (hE : exN E = cls) (hcls : Bundle.fit cls = true) (hnames : ∀ n ∈ names, Bundle.fit n = true)
    (hk : (.classLink own ik cls) ∈ LWg) (hini : (.initialized cls) ∈ LWg) (hat : (∀ w ∈ LWg, w.before args s = true) → NW s → ∀ w ∈ vx_atS own ic cls names, w.before args s = true) (hgood : ∀ w ∈ Cond.classLink own ik cls :: Cond.initialized cls :: vx_atS own ic cls names, vx_ot w = true)
    (d0 : decode cc pc = .ok (.new ik, 3)) (d3 : decode cc (pc + 3) = .ok (.dup, 1)) (d4 : decode cc (pc + 4) = .ok (.ldc is, 2)) (d6 : decode cc (pc + 6) = .ok (.invokespecial ic, 3)) (d9 : decode cc (pc + 9) = .ok (.athrow, 1))
    (hRf : names.length + 3 < R.frames) (hRl : (rest.map fun v => v.category).sum + (13 * (names.length + 1) + 43) ≤ R.locals) (hRc : cells + 1 ≤ R.cells) (hRs : slots + 6 ≤ R.slots) (hf : some (.inl E : RX α) = some q0) (hc : cells + 1 ≤ mc) (hs : slots + 6 ≤ ms) (hsk : strL[sk]? = some (own, is, text) := by rfl) :
    W p l e R s m args below meth c H locs cells slots (vx_MQ below Qc (XcX g X N sh b s.heap.size q0 M) args s mc ms (AA X b N s.heap.size)) (F0 m pc ls rest) := by
  cases hf
  obtain ⟨sa, hsa⟩ := C1.2.2.2.2.2.2.2.2.2 _ (List.mem_of_getElem? hsk)
  exact vx_throwS C0.1 C0.2.1 hl0 C0.2.2.2.1 hcls hnames (C0.2.2.2.2 _ hk) (C0.2.2.2.2 _ hini) hsa (hat C0.2.2.2.2 C1.2.2.2) hgood C1.2.2.1.2.2.2.2.2.2.2.2.2.2.1 C1.2.2.1.2.2.2.2.2.2.2.2.2.2.2.1 hI.2 (hls.trans C0.2.2.1.symm) d0 d3 d4 d6 d9 (fun x hx => (hno x hx).elim) hRf hRl hRc hRs hlocks (thr_post hI rfl hE) hI.2.2.2 hc hs
end THROWS
