/-! ===== the Option programs that the methods are read as ===== -/
def inb (i : Int32) (n : Nat) : Bool := decide (¬ (i < 0 ∨ n ≤ i.toNatClampNeg))
theorem inb_in {i : Int32} {n : Nat} (h : inb i n = true) : vp_in i n := of_decide_eq_true (p := ¬ (i < 0 ∨ n ≤ i.toNatClampNeg)) h
def isB (x : Int32) : Bool := x == 0 || x == 1
theorem isB_n {x : Int32} (h : isB x = true) : narrow .boolean (.int x) = .int x ∧ fits .boolean (.int x) = true := by
  simp only [isB, Bool.or_eq_true, beq_iff_eq] at h
  rcases h with rfl | rfl <;> exact ⟨rfl, rfl⟩
abbrev ix (i : Int32) : Nat := i.toNatClampNeg
theorem ix_lt {i : Int32} {n : Nat} (h : vp_in i n) : ix i < n := Nat.not_le.mp fun q => h (Or.inr q)
def chk {α : Type} (c : Bool) (x : Option α) : Option α := if c = true then x else none
theorem chk_some {α : Type} {c : Bool} {x : Option α} {r : α} (h : chk c x = some r) : c = true ∧ x = some r := by
  unfold chk at h
  split at h
  · exact ⟨by assumption, h⟩
  · cases h
def ob {α β : Type} (x : Option α) (f : α → Option β) : Option β := match x with | some a => f a | none => none
theorem ob_some {α β : Type} {x : Option α} {f : α → Option β} {r : β} (h : ob x f = some r) : ∃ a, x = some a ∧ f a = some r := by
  cases x with
  | none => cases h
  | some a => exact ⟨a, rfl, h⟩
def ob2 {α β γ : Type} (x : Option (α × β)) (f : α → β → Option γ) : Option γ := match x with | some (a, b) => f a b | none => none
theorem ob2_some {α β γ : Type} {x : Option (α × β)} {f : α → β → Option γ} {r : γ} (h : ob2 x f = some r) : ∃ a b, x = some (a, b) ∧ f a b = some r := by
  cases x with
  | none => cases h
  | some q => exact ⟨q.1, q.2, rfl, h⟩
/-- the answer of a method that may throw: inl: the exception's number -/
abbrev RX (α : Type) : Type := Nat ⊕ α
def obx {α β : Type} (x : Option (RX α)) (f : α → Option (RX β)) : Option (RX β) := match x with | some (.inl e) => some (.inl e) | some (.inr a) => f a | none => none
theorem obx_some {α β : Type} {x : Option (RX α)} {f : α → Option (RX β)} {r : RX β} (h : obx x f = some r) : ∃ q, x = some q ∧ (∀ e, q = .inl e → r = .inl e) ∧ (∀ a, q = .inr a → f a = some r) := by
  cases x with
  | none => cases h
  | some q =>
    refine ⟨q, rfl, fun e he => ?_, fun a ha => ?_⟩
    · subst he; exact (Option.some.inj h).symm
    · subst ha; exact h
def obx2 {α β : Type} (x : Option (RX α × Mem)) (f : α → Mem → Option (RX β × Mem)) : Option (RX β × Mem) := match x with | some (.inl e, M) => some (.inl e, M) | some (.inr a, M) => f a M | none => none
theorem obx2_some {α β : Type} {x : Option (RX α × Mem)} {f : α → Mem → Option (RX β × Mem)} {r : RX β × Mem} (h : obx2 x f = some r) : ∃ q M, x = some (q, M) ∧ (∀ e, q = .inl e → r = (.inl e, M)) ∧ (∀ a, q = .inr a → f a M = some r) := by
  cases x with
  | none => cases h
  | some q =>
    obtain ⟨q, M⟩ := q
    refine ⟨q, M, rfl, fun e he => ?_, fun a ha => ?_⟩
    · subst he; exact (Option.some.inj h).symm
    · subst ha; exact h
/-- a method that throws and doesn't write: its result and the memory as it was -/
def obxr {α β : Type} (x : Option (RX α)) (M : Mem) (f : α → Option (RX β × Mem)) : Option (RX β × Mem) := match x with | some (.inl e) => some (.inl e, M) | some (.inr a) => f a | none => none
theorem obxr_some {α β : Type} {x : Option (RX α)} {M : Mem} {f : α → Option (RX β × Mem)} {r : RX β × Mem} (h : obxr x M f = some r) : ∃ q, x = some q ∧ (∀ e, q = .inl e → r = (.inl e, M)) ∧ (∀ a, q = .inr a → f a = some r) := by
  cases x with
  | none => cases h
  | some q =>
    refine ⟨q, rfl, fun e he => ?_, fun a ha => ?_⟩
    · subst he; exact (Option.some.inj h).symm
    · subst ha; exact h
def exN : Nat → String := fun k => match k with
  | 0 => "java/lang/IllegalStateException"
  | 1 => "java/lang/IllegalArgumentException"
  | 2 => "java/lang/IndexOutOfBoundsException"
  | 3 => "java/lang/ArithmeticException"
  | 4 => "java/lang/UnsupportedOperationException"
  | _ => "java/util/NoSuchElementException"
abbrev rmD (d mc ms : Nat) : Room := { frames := d, cells := mc, slots := ms, locals := 40 * d }
/-! ===== a method's beginning ===== -/
theorem met_go {l : Launch} {y : MethodName} {cc : ByteArray} {maxL : Nat} {ret : Option FieldType} {rm : Room} {g : GG} {X : va_W} {N : Nat} {sh : Shp} {b : Nat → Nat} {sz : Nat} {M : Mem} {av : List Value} {own : String} {Qc : Array Value → State → Outcome → State → Prop} {mc ms : Nat} {free : Addr → Prop}
    (hy : plainName y.cls = true) (hown : y.cls = own) (hlen : (lg_sl av).length ≤ maxL)
    (body : ∀ (p : Program) (e : Env) (s : State) (m : MethodId) (below : List Frame) (meth : Method) (c : Code) (ls : Array Slot) (H : Heap) (locs : List Loc), CallFix p m c cc maxL s av.toArray LWg own → CX g X N sh b s → meth.sig.returnType = ret → meth.locks = false → meth.name = y.name → sz = s.heap.size → lv_has ls maxL (lv_args 0 av) → PI g X N sh b s M H locs →
      W p l e rm s m av.toArray below meth c H locs 0 0 (MQ below Qc av.toArray s mc ms free) (F0 m 0 ls [])) : Met l y (.code y cc maxL ret :: LWg) rm (va_Pc av (PreP g X N sh b sz M)) Qc mc ms free := by
  refine Met.ofW (cc := cc) (maxL := maxL) (ret := ret) hy rfl ?_
  intro p e s m args below meth c s₁ B hml hv
  obtain ⟨rfl, hv⟩ := hv
  obtain ⟨hsz, C1, hI⟩ := PreP.go hv
  have hl := lv_entry av (n := maxL) hlen
  rw [lg_entry_eq]
  exact body p e s m below meth c _ _ _ ⟨B.exec, B.bytes, hml, by rw [← hown]; exact findClass_of_methodNamed B.named, fun w hw => atoms_spec (ws := .code y cc maxL ret :: LWg) B.pre w (List.mem_cons_of_mem _ hw)⟩ C1 B.returns B.notSynchronized (name_of_methodNamed B.named B.method).1 hsz hl hI
theorem metx_go {l : Launch} {y : MethodName} {cc : ByteArray} {maxL : Nat} {ret : Option FieldType} {rm : Room} {g : GG} {X : va_W} {N : Nat} {sh : Shp} {b : Nat → Nat} {sz : Nat} {M : Mem} {av : List Value} {own : String} {Qc : Array Value → State → Outcome → State → Prop} {XC : String → State → State → Prop} {mc ms : Nat} {free : Addr → Prop}
    (hy : plainName y.cls = true) (hown : y.cls = own) (hlen : (lg_sl av).length ≤ maxL)
    (body : ∀ (p : Program) (e : Env) (s : State) (m : MethodId) (below : List Frame) (meth : Method) (c : Code) (ls : Array Slot) (H : Heap) (locs : List Loc), CallFix p m c cc maxL s av.toArray LWg own → CX g X N sh b s → meth.sig.returnType = ret → meth.locks = false → (∀ x ∈ c.exceptionTable.toList, False) → sz = s.heap.size → lv_has ls maxL (lv_args 0 av) → PI g X N sh b s M H locs →
      W p l e rm s m av.toArray below meth c H locs 0 0 (vx_MQ below Qc XC av.toArray s mc ms free) (F0 m 0 ls [])) : vx_Met l y (.code y cc maxL ret :: LWg) rm (va_Pc av (PreP g X N sh b sz M)) Qc XC mc ms free := by
  refine vx_ofW (cc := cc) (maxL := maxL) (ret := ret) hy rfl ?_
  intro p e s m args below meth c s₁ B hml hno hv
  obtain ⟨rfl, hv⟩ := hv
  obtain ⟨hsz, C1, hI⟩ := PreP.go hv
  have hl := lv_entry av (n := maxL) hlen
  rw [lg_entry_eq]
  exact body p e s m below meth c _ _ _ ⟨B.exec, B.bytes, hml, by rw [← hown]; exact findClass_of_methodNamed B.named, fun w hw => atoms_spec (ws := .code y cc maxL ret :: LWg) B.pre w (List.mem_cons_of_mem _ hw)⟩ C1 B.returns B.notSynchronized hno hsz hl hI
section ROWS
variable {p : Program} {l : Launch} {e : Env} {R : Room} {s : State} {m : MethodId} {args : Array Value} {below : List Frame} {meth : Method} {c : Code} {H : Heap} {locs : List Loc} {cells slots : Nat} {Q : State → Prop}
variable {cc : ByteArray} {nL : Nat} {own : String} {pc : Nat} {ls : Array Slot} {rest st0 : List Value} {g : GG} {X : va_W} {N : Nat} {sh : Shp} {b : Nat → Nat} {M : Mem}
/-! ===== fields and arrays of the pool ===== -/
theorem r_get (C0 : CallFix p m c cc nL s args LWg own) (C1 : CX g X N sh b s) (hI : PI g X N sh b s M H locs) {C : String} {T : u_T} {N9 ci index : Nat} (hin : ∀ w ∈ u_ws C T N9, w ∈ LWg) (hc : vwCl[ci]? = some (C, T, N9)) (k j : Nat) (hk : k < N) (hj : j < N9) {fs : List Value} {v : Value} (hs : sh k (M k) = .inr (ci, fs)) (hv : fs[j]? = some v) (hC : (T j).1 = C) (hw : (.fieldLink own index C (T j).2.1 (T j).2.2.1) ∈ LWg) (hdg : decode cc pc = .ok (.getfield index, 3))
    (kk : W p l e R s m args below meth c H locs cells slots Q (F0 m (pc + 3) ls (v :: rest))) : W p l e R s m args below meth c H locs cells slots Q (F0 m pc ls (.ref (b k) :: rest)) :=
  va_get (C := C) (T := T) C0.1 C0.2.1 C0.2.2.2.2 hin C0.2.2.2.1 C1.1 hI.1 (X.length + k) (by rw [pw_get X hk, hs]) hc j hj (C0.2.2.2.2 _ hw) (fun x h => by rw [hC] at h; exact h) hv hdg kk
theorem r_getN (C0 : CallFix p m c cc nL s args LWg own) (C1 : CX g X N sh b s) (hI : PI g X N sh b s M H locs) {C : String} {T : u_T} {N9 ci index : Nat} {host : String} (hin : ∀ w ∈ u_ws C T N9, w ∈ LWg) (hc : vwCl[ci]? = some (C, T, N9)) (k j : Nat) (hk : k < N) (hj : j < N9) {fs : List Value} {v : Value} (hs : sh k (M k) = .inr (ci, fs)) (hv : fs[j]? = some v) (hC : (T j).1 = C) (i : Nat) (hw : nestF[i]? = some (own, index, C, (T j).2.1, (T j).2.2.1, host)) (hdg : decode cc pc = .ok (.getfield index, 3))
    (kk : W p l e R s m args below meth c H locs cells slots Q (F0 m (pc + 3) ls (v :: rest))) : W p l e R s m args below meth c H locs cells slots Q (F0 m pc ls (.ref (b k) :: rest)) :=
  va_getN (C := C) (T := T) C0.1 C0.2.1 C0.2.2.2.2 hin C0.2.2.2.1 C1.1 hI.1 (X.length + k) (by rw [pw_get X hk, hs]) hc j hj (va_Nw.use rfl (C1.2.2.2.2.1 _ (List.mem_of_getElem? hw))) (fun x h => by rw [hC] at h; exact h) hv hdg kk
theorem r_put (C0 : CallFix p m c cc nL s args LWg own) (C1 : CX g X N sh b s) (hI : PI g X N sh b s M H locs) {C : String} {T : u_T} {N9 ci index : Nat} (hin : ∀ w ∈ u_ws C T N9, w ∈ LWg) (ty0 : Nat → FieldType) (hty : ∀ k, k < N9 → parseFieldDescriptor (T k).2.2.1 = some (ty0 k)) (hnm : ∀ a, a < N9 → ∀ b, b < N9 → a ≠ b → (T a).2.1 ≠ (T b).2.1) (hc : vwCl[ci]? = some (C, T, N9)) (k j : Nat) (hk : k < N) (hj : j < N9) {fs : (Nat → Int32) → List Value} {x : Int32} (hs : ∀ v, sh k v = .inr (ci, fs v)) (hset : fs (upd (M k) j x) = (fs (M k)).set j (.int x)) (hC : (T j).1 = C) (hfin : (T j).2.2.2 = false) {ty : FieldType} (hd : parseFieldDescriptor (T j).2.2.1 = some ty) (hn : narrow ty (.int x) = .int x ∧ fits ty (.int x) = true) (hl : j < (fs (M k)).length) (hw : (.fieldLink own index C (T j).2.1 (T j).2.2.1) ∈ LWg) (hdg : decode cc pc = .ok (.putfield index, 3))
    (kk : ∀ (H : Heap) (locs : List Loc), PI g X N sh b s (up2 M k j x) H locs → W p l e R s m args below meth c H locs cells slots Q (F0 m (pc + 3) ls rest)) : W p l e R s m args below meth c H locs cells slots Q (F0 m pc ls (.int x :: .ref (b k) :: rest)) := by
  have e1 : (X ++ pw N sh b M).set (X.length + k) (b k, .inr (ci, (fs (M k)).set j (.int x))) = X ++ pw N sh b (up2 M k j x) := by
    rw [← hset, ← hs]
    exact pw_set X hk
  refine va_put (C := C) (T := T) C0.1 C0.2.1 C0.2.2.2.2 hin ty0 hty hnm C0.2.2.2.1 C1.1 hI.1 (C1.2.1 M) hI.2 (X.length + k) (by rw [pw_get X hk, hs]) hc j hj (C0.2.2.2.2 _ hw) (fun x h => by rw [hC] at h; exact h) hfin hd hn.1 hn.2 hl hdg (fun H1 locs1 hP hD hS => kk H1 locs1 ⟨?_, hS⟩)
  rw [← e1]
  exact hP
theorem r_putN (C0 : CallFix p m c cc nL s args LWg own) (C1 : CX g X N sh b s) (hI : PI g X N sh b s M H locs) {C : String} {T : u_T} {N9 ci index : Nat} {host : String} (hin : ∀ w ∈ u_ws C T N9, w ∈ LWg) (ty0 : Nat → FieldType) (hty : ∀ k, k < N9 → parseFieldDescriptor (T k).2.2.1 = some (ty0 k)) (hnm : ∀ a, a < N9 → ∀ b, b < N9 → a ≠ b → (T a).2.1 ≠ (T b).2.1) (hc : vwCl[ci]? = some (C, T, N9)) (k j : Nat) (hk : k < N) (hj : j < N9) {fs : (Nat → Int32) → List Value} {x : Int32} (hs : ∀ v, sh k v = .inr (ci, fs v)) (hset : fs (upd (M k) j x) = (fs (M k)).set j (.int x)) (hC : (T j).1 = C) (hfin : (T j).2.2.2 = false) {ty : FieldType} (hd : parseFieldDescriptor (T j).2.2.1 = some ty) (hn : narrow ty (.int x) = .int x ∧ fits ty (.int x) = true) (hl : j < (fs (M k)).length) (i : Nat) (hw : nestF[i]? = some (own, index, C, (T j).2.1, (T j).2.2.1, host)) (hdg : decode cc pc = .ok (.putfield index, 3))
    (kk : ∀ (H : Heap) (locs : List Loc), PI g X N sh b s (up2 M k j x) H locs → W p l e R s m args below meth c H locs cells slots Q (F0 m (pc + 3) ls rest)) : W p l e R s m args below meth c H locs cells slots Q (F0 m pc ls (.int x :: .ref (b k) :: rest)) := by
  have e1 : (X ++ pw N sh b M).set (X.length + k) (b k, .inr (ci, (fs (M k)).set j (.int x))) = X ++ pw N sh b (up2 M k j x) := by
    rw [← hset, ← hs]
    exact pw_set X hk
  refine va_putN (C := C) (T := T) C0.1 C0.2.1 C0.2.2.2.2 hin ty0 hty hnm C0.2.2.2.1 C1.1 hI.1 (C1.2.1 M) hI.2 (X.length + k) (by rw [pw_get X hk, hs]) hc j hj (va_Nw.use rfl (C1.2.2.2.2.1 _ (List.mem_of_getElem? hw))) (fun x h => by rw [hC] at h; exact h) hfin hd hn.1 hn.2 hl hdg (fun H1 locs1 hP hD hS => kk H1 locs1 ⟨?_, hS⟩)
  rw [← e1]
  exact hP
theorem r_iald (C0 : CallFix p m c cc nL s args LWg own) (C1 : CX g X N sh b s) (hI : PI g X N sh b s M H locs) (k : Nat) (hk : k < N) {n : Nat} (hs : ∀ v, sh k v = .inl (g.2.1 0, n, .inl v)) {i : Int32} (hin : inb i n = true) (hdg : decode cc pc = .ok (.iaload, 1))
    (kk : W p l e R s m args below meth c H locs cells slots Q (F0 m (pc + 1) ls (.int (M k (ix i)) :: rest))) : W p l e R s m args below meth c H locs cells slots Q (F0 m pc ls (.int i :: .ref (b k) :: rest)) :=
  va_iald C0.1 C0.2.1 C1.1 hI.1 (X.length + k) 0 (by rw [pw_get X hk, hs]) rfl (inb_in hin) hdg kk
theorem r_iast (C0 : CallFix p m c cc nL s args LWg own) (C1 : CX g X N sh b s) (hI : PI g X N sh b s M H locs) (k : Nat) (hk : k < N) {n : Nat} (hs : ∀ v, sh k v = .inl (g.2.1 0, n, .inl v)) {i x : Int32} (hin : inb i n = true) (hdg : decode cc pc = .ok (.iastore, 1))
    (kk : ∀ (H : Heap) (locs : List Loc), PI g X N sh b s (up2 M k (ix i) x) H locs → W p l e R s m args below meth c H locs cells slots Q (F0 m (pc + 1) ls rest)) : W p l e R s m args below meth c H locs cells slots Q (F0 m pc ls (.int x :: .int i :: .ref (b k) :: rest)) := by
  have e1 : (X ++ pw N sh b M).set (X.length + k) (b k, .inl (g.2.1 0, n, .inl (upd (M k) (ix i) x))) = X ++ pw N sh b (up2 M k (ix i) x) := by
    rw [← hs]
    exact pw_set X hk
  refine va_iast C0.1 C0.2.1 C1.1 hI.1 (C1.2.1 M) hI.2 (X.length + k) 0 (by rw [pw_get X hk, hs]) rfl (inb_in hin) hdg (fun H1 locs1 hP hD hS => kk H1 locs1 ⟨?_, hS⟩)
  rw [← e1]
  exact hP
theorem r_aald (C0 : CallFix p m c cc nL s args LWg own) (C1 : CX g X N sh b s) (hI : PI g X N sh b s M H locs) (k : Nat) (hk : k < N) {n t0 : Nat} {cA : ClassId} {C : String} {f : Nat → Option Nat} (hs : ∀ v, sh k v = .inl (cA, n, .inr (.inr (.inr (.inr f))))) (ht : (tysG g)[t0]? = some (cA, .object C)) {i : Int32} (hin : inb i n = true) {v : Nat} (hv : f (ix i) = some v) (hdg : decode cc pc = .ok (.aaload, 1))
    (kk : W p l e R s m args below meth c H locs cells slots Q (F0 m (pc + 1) ls (.ref v :: rest))) : W p l e R s m args below meth c H locs cells slots Q (F0 m pc ls (.int i :: .ref (b k) :: rest)) :=
  va_aldq C0.1 C0.2.1 C1.1 hI.1 (X.length + k) t0 (by rw [pw_get X hk, hs]) ht (inb_in hin) hdg (by rw [show i.toNatClampNeg = ix i from rfl, hv]; exact kk)
theorem r_alen (C0 : CallFix p m c cc nL s args LWg own) (C1 : CX g X N sh b s) (hI : PI g X N sh b s M H locs) (k : Nat) (hk : k < N) {n : Nat} (hs : ∀ v, sh k v = .inl (g.2.1 0, n, .inl v)) {v : Int32} (hv : Int32.ofNat n = v) (hdg : decode cc pc = .ok (.arraylength, 1))
    (kk : W p l e R s m args below meth c H locs cells slots Q (F0 m (pc + 1) ls (.int v :: rest))) : W p l e R s m args below meth c H locs cells slots Q (F0 m pc ls (.ref (b k) :: rest)) :=
  va_alen C0.1 C0.2.1 C1.1 hI.1 (X.length + k) 0 (by rw [pw_get X hk, hs]) rfl hv hdg kk
/-- the whole of an int array into another one -/
theorem r_copy (C0 : CallFix p m c cc nL s args LWg own) (C1 : CX g X N sh b s) (hI : PI g X N sh b s M H locs) (hls : ls.size = nL) (k0 k : Nat) (hk0 : k0 < N) (hk : k < N) {n : Nat} (hs0 : ∀ v, sh k0 v = .inl (g.2.1 0, n, .inl v)) (hs : ∀ v, sh k v = .inl (g.2.1 0, n, .inl v)) {z : Int32} (hz : z.toNatClampNeg = n ∧ ¬ z < 0) {index : Nat} (h1 : (.methodLink own index arraycopyName) ∈ LWg) (h2 : (.native arraycopyName) ∈ LWg) (h3 : (.static arraycopyName) ∈ LWg) (h4 : (.initialized "java/lang/System") ∈ LWg)
    (hfr : 1 ≤ R.frames) (hlo : (rest.map fun v => v.category).sum + (nativeFrameWords "java/lang/System" "arraycopy" 5 + 11) ≤ R.locals) (hdg : decode cc pc = .ok (.invokestatic index, 3))
    (kk : ∀ (H : Heap) (locs : List Loc), PI g X N sh b s (upr M k (va_cpy (M k0) (M k) 0 0 n)) H locs → W p l e R s m args below meth c H locs cells slots Q (F0 m (pc + 3) ls rest)) : W p l e R s m args below meth c H locs cells slots Q (F0 m pc ls (.int z :: .int 0 :: .ref (b k) :: .int 0 :: .ref (b k0) :: rest)) := by
  have z0 : (0 : Int32).toNatClampNeg = 0 := rfl
  have e1 : (X ++ pw N sh b M).set (X.length + k) (b k, .inl (g.2.1 0, n, .inl (va_cpy (M k0) (M k) (0 : Int32).toNatClampNeg (0 : Int32).toNatClampNeg z.toNatClampNeg))) = X ++ pw N sh b (upr M k (va_cpy (M k0) (M k) 0 0 n)) := by
    rw [← hs, hz.1, z0]
    exact pw_set X hk
  refine va_copyi C0.1 C0.2.1 (by rw [C0.2.2.1, hls]) C0.2.2.2.1 (C0.2.2.2.2 _ h1) (C0.2.2.2.2 _ h2) (C0.2.2.2.2 _ h3) (C0.2.2.2.2 _ h4) C1.1 hI.1 (C1.2.1 M) hI.2 (X.length + k0) (X.length + k) 0 0 (by rw [pw_get X hk0, hs0]) (by rw [pw_get X hk, hs]) rfl rfl rfl (by decide) (by decide) hz.2 (by rw [hz.1, z0]; omega) (by rw [hz.1, z0]; omega) (fun _ _ => rfl) hfr hlo hdg (fun H1 locs1 hP hD hS => kk H1 locs1 ⟨?_, hS⟩)
  rw [← e1]
  exact hP
/-! ===== constants of the enums ===== -/
theorem r_refu (C0 : CallFix p m c cc nL s args LWg own) (C1 : CX g X N sh b s) (hI : PI g X N sh b s M H locs) (i : Nat) (hi : i < 23) {index : Nat} {n : String} (hn : nmR.getD i "" = n) (hw : (.fieldLink own index RX7 n "LFrogParliament$Refusal;") ∈ LWg) (hdg : decode cc pc = .ok (.getstatic index, 3))
    (kk : W p l e R s m args below meth c H locs cells slots Q (F0 m (pc + 3) ls (.ref (g.2.2 0 i) :: rest))) : W p l e R s m args below meth c H locs cells slots Q (F0 m pc ls rest) := by
  subst hn
  exact va_gets (C := RX7) (n := nmR.getD i "") C0.1 C0.2.1 (C1.2.2.1.1.1 i hi).1 hI.2 C0.2.2.2.1 (C0.2.2.2.2 _ hw) (fun _ h => h) hdg kk
theorem refu_inj (C1 : CX g X N sh b s) {i j : Nat} (hi : i < 23) (hj : j < 23) : some (g.2.2 0 i) = some (g.2.2 0 j) ↔ i = j :=
  ⟨fun h => C1.2.2.1.1.2 i j hi hj (Option.some.inj h), fun h => by rw [h]⟩
/-! ===== calls ===== -/
theorem good_all {y : MethodName} {bytes : ByteArray} {maxL : Nat} {ret : Option FieldType} (h : (.code y bytes maxL ret) ∈ LWg) : GoodIn LWg (.code y bytes maxL ret :: LWg) := fun w hw => (List.mem_cons.mp hw).elim (fun e => by rw [e]; exact ⟨h, LWg_good h⟩) (fun h2 => ⟨h2, LWg_good h2⟩)
theorem good_c {w : Cond} {ws : List Cond} (h : w ∈ LWg) (t : GoodIn LWg ws) : GoodIn LWg (w :: ws) := fun v hv => (List.mem_cons.mp hv).elim (fun e => by rw [e]; exact ⟨h, LWg_good h⟩) (t v)
variable {y : MethodName} {bytes : ByteArray} {maxL n mc ms index : Nat} {ret : Option FieldType} {rm : Room} {As : List Value} {Qc : Array Value → State → Outcome → State → Prop} {XC : String → State → State → Prop} {free : Addr → Prop}
theorem r_recv (C1 : CX g X N sh b s) (hI : PI g X N sh b s M H locs) {k ci : Nat} {fs : List Value} {r : vw_C} (hk : k < N) (hs : sh k (M k) = .inr (ci, fs)) (hc : vwCl[ci]? = some r) : ∃ cell : Cell, H[b k]? = some cell ∧ cell.vm.isStatics = false ∧ s.vm.findClass r.1 = some cell.cls :=
  va_recv (q0 := X.length + k) (fs := fs) C1.1 hI.1 hc (by rw [pw_get X hk, hs])
theorem q_V (C0 : CallFix p m c cc nL s args LWg own) (C1 : CX g X N sh b s) (hI : PI g X N sh b s M H locs) (k : Nat) (hM : Met l y (.code y bytes maxL ret :: LWg) rm (va_Pc (.ref (b k) :: As) (PreP g X N sh b H.size M)) Qc mc ms free) (h1 : (.methodLink own index y) ∈ LWg) (h2 : (.instanceMethod y) ∈ LWg) (h3 : (.selects y.cls y y) ∈ LWg) (h4 : (.initialized y.cls) ∈ LWg) (h5 : (.code y bytes maxL ret) ∈ LWg)
    (hr : rm.cells = mc ∧ rm.slots = ms) (hd : y.cls ≠ "java/lang/invoke/MethodHandle" ∧ y.cls ≠ "java/lang/invoke/VarHandle" ∧ (parseMethodDescriptor y.desc).map (fun d => d.parameters.length) = some n) (hR : rm.frames + 1 ≤ R.frames ∧ 8 + (maxL + 11) + rm.locals ≤ R.locals) {ci : Nat} {fs : List Value} {r : vw_C} (hk : k < N) (hs : sh k (M k) = .inr (ci, fs)) (hc : vwCl[ci]? = some r) (hrc : r.1 = y.cls)
    (hn : As.length = n) (hls : ls.size = nL) (hst : st0 = As.reverse ++ .ref (b k) :: rest) (hW : (rest.map fun v => v.category).sum ≤ 8) (hdg : decode cc pc = .ok (.invokevirtual index, 3)) (hf : cells + mc ≤ R.cells ∧ slots + ms ≤ R.slots) :
    va_Run p l e R s m args below meth c H locs cells slots mc ms (F0 m pc ls st0) rest (Qc (Value.ref (b k) :: As).toArray) free :=
  va_runV C0 hM (cwV n C0.2.2.2.2 (good_c h1 (good_c h2 (good_c h3 (good_c h4 (good_all h5))))) rfl hr.1 hr.2 ⟨rfl, hd⟩ hR) ⟨PreP.blind, by rw [← hrc]; exact r_recv C1 hI hk hs hc, fun U hU hW => ⟨rfl, PreP.call C1 hI hU hW⟩⟩ rfl hn hls hst (lv_room hW) hdg hf
theorem q_VN {host : String} (C0 : CallFix p m c cc nL s args LWg own) (C1 : CX g X N sh b s) (hI : PI g X N sh b s M H locs) (k : Nat) (hM : Met l y (.code y bytes maxL ret :: LWg) rm (va_Pc (.ref (b k) :: As) (PreP g X N sh b H.size M)) Qc mc ms free) (i : Nat) (h1 : nestM[i]? = some (own, index, y, host)) (h2 : (.instanceMethod y) ∈ LWg) (h3 : (.selects y.cls y y) ∈ LWg) (h4 : (.initialized y.cls) ∈ LWg) (h5 : (.code y bytes maxL ret) ∈ LWg)
    (hr : rm.cells = mc ∧ rm.slots = ms) (hd : y.cls ≠ "java/lang/invoke/MethodHandle" ∧ y.cls ≠ "java/lang/invoke/VarHandle" ∧ (parseMethodDescriptor y.desc).map (fun d => d.parameters.length) = some n) (hR : rm.frames + 1 ≤ R.frames ∧ 8 + (maxL + 11) + rm.locals ≤ R.locals) {ci : Nat} {fs : List Value} {r : vw_C} (hk : k < N) (hs : sh k (M k) = .inr (ci, fs)) (hc : vwCl[ci]? = some r) (hrc : r.1 = y.cls)
    (hn : As.length = n) (hls : ls.size = nL) (hst : st0 = As.reverse ++ .ref (b k) :: rest) (hW : (rest.map fun v => v.category).sum ≤ 8) (hdg : decode cc pc = .ok (.invokevirtual index, 3)) (hf : cells + mc ≤ R.cells ∧ slots + ms ≤ R.slots) :
    va_Run p l e R s m args below meth c H locs cells slots mc ms (F0 m pc ls st0) rest (Qc (Value.ref (b k) :: As).toArray) free :=
  va_runVN C0 hM ⟨va_cnB n C0.2.2.2.2 (good_all h5) rfl hr.1 hr.2 (C1.2.2.2.1 _ (List.mem_of_getElem? h1)) (C0.2.2.2.2 _ h4) hd hR, C0.2.2.2.2 _ h2, C0.2.2.2.2 _ h3⟩ ⟨PreP.blind, by rw [← hrc]; exact r_recv C1 hI hk hs hc, fun U hU hW => ⟨rfl, PreP.call C1 hI hU hW⟩⟩ rfl hn hls hst (lv_room hW) hdg hf
theorem q_S (C0 : CallFix p m c cc nL s args LWg own) (C1 : CX g X N sh b s) (hI : PI g X N sh b s M H locs) (hM : Met l y (.code y bytes maxL ret :: LWg) rm (va_Pc As (PreP g X N sh b H.size M)) Qc mc ms free) (h1 : (.methodLink own index y) ∈ LWg) (h2 : (.static y) ∈ LWg) (h4 : (.initialized y.cls) ∈ LWg) (h5 : (.code y bytes maxL ret) ∈ LWg)
    (hr : rm.cells = mc ∧ rm.slots = ms) (hd : y.cls ≠ "java/lang/invoke/MethodHandle" ∧ y.cls ≠ "java/lang/invoke/VarHandle" ∧ (parseMethodDescriptor y.desc).map (fun d => d.parameters.length) = some n) (hR : rm.frames + 1 ≤ R.frames ∧ 8 + (maxL + 11) + rm.locals ≤ R.locals)
    (hn : As.length = n) (hls : ls.size = nL) (hst : st0 = As.reverse ++ rest) (hW : (rest.map fun v => v.category).sum ≤ 8) (hdg : decode cc pc = .ok (.invokestatic index, 3)) (hf : cells + mc ≤ R.cells ∧ slots + ms ≤ R.slots) :
    va_Run p l e R s m args below meth c H locs cells slots mc ms (F0 m pc ls st0) rest (Qc As.toArray) free :=
  va_runS C0 hM (va_cwS n C0.2.2.2.2 (good_c h1 (good_c h2 (good_c h4 (good_all h5)))) rfl hr.1 hr.2 hd hR) ⟨PreP.blind, fun U hU hW => ⟨rfl, PreP.call C1 hI hU hW⟩⟩ rfl hn hls hst (lv_room hW) hdg hf
theorem qx_V (C0 : CallFix p m c cc nL s args LWg own) (C1 : CX g X N sh b s) (hI : PI g X N sh b s M H locs) (k : Nat) (hM : vx_Met l y (.code y bytes maxL ret :: LWg) rm (va_Pc (.ref (b k) :: As) (PreP g X N sh b H.size M)) Qc XC mc ms free) (h1 : (.methodLink own index y) ∈ LWg) (h2 : (.instanceMethod y) ∈ LWg) (h3 : (.selects y.cls y y) ∈ LWg) (h4 : (.initialized y.cls) ∈ LWg) (h5 : (.code y bytes maxL ret) ∈ LWg)
    (hr : rm.cells = mc ∧ rm.slots = ms) (hd : y.cls ≠ "java/lang/invoke/MethodHandle" ∧ y.cls ≠ "java/lang/invoke/VarHandle" ∧ (parseMethodDescriptor y.desc).map (fun d => d.parameters.length) = some n) (hR : rm.frames + 1 ≤ R.frames ∧ 8 + (maxL + 11) + rm.locals ≤ R.locals) {ci : Nat} {fs : List Value} {r : vw_C} (hk : k < N) (hs : sh k (M k) = .inr (ci, fs)) (hc : vwCl[ci]? = some r) (hrc : r.1 = y.cls)
    (hn : As.length = n) (hls : ls.size = nL) (hst : st0 = As.reverse ++ .ref (b k) :: rest) (hW : (rest.map fun v => v.category).sum ≤ 8) (hdg : decode cc pc = .ok (.invokevirtual index, 3)) (hf : cells + mc ≤ R.cells ∧ slots + ms ≤ R.slots) :
    vx_Run p l e R s m args below meth c H locs cells slots mc ms (F0 m pc ls st0) rest (Qc (Value.ref (b k) :: As).toArray) XC free :=
  vx_runV C0 hM (cwV n C0.2.2.2.2 (good_c h1 (good_c h2 (good_c h3 (good_c h4 (good_all h5))))) rfl hr.1 hr.2 ⟨rfl, hd⟩ hR) ⟨PreP.blind, by rw [← hrc]; exact r_recv C1 hI hk hs hc, fun U hU hW => ⟨rfl, PreP.call C1 hI hU hW⟩⟩ rfl hn hls hst (lv_room hW) hdg hf
theorem qx_S (C0 : CallFix p m c cc nL s args LWg own) (C1 : CX g X N sh b s) (hI : PI g X N sh b s M H locs) (hM : vx_Met l y (.code y bytes maxL ret :: LWg) rm (va_Pc As (PreP g X N sh b H.size M)) Qc XC mc ms free) (h1 : (.methodLink own index y) ∈ LWg) (h2 : (.static y) ∈ LWg) (h4 : (.initialized y.cls) ∈ LWg) (h5 : (.code y bytes maxL ret) ∈ LWg)
    (hr : rm.cells = mc ∧ rm.slots = ms) (hd : y.cls ≠ "java/lang/invoke/MethodHandle" ∧ y.cls ≠ "java/lang/invoke/VarHandle" ∧ (parseMethodDescriptor y.desc).map (fun d => d.parameters.length) = some n) (hR : rm.frames + 1 ≤ R.frames ∧ 8 + (maxL + 11) + rm.locals ≤ R.locals)
    (hn : As.length = n) (hls : ls.size = nL) (hst : st0 = As.reverse ++ rest) (hW : (rest.map fun v => v.category).sum ≤ 8) (hdg : decode cc pc = .ok (.invokestatic index, 3)) (hf : cells + mc ≤ R.cells ∧ slots + ms ≤ R.slots) :
    vx_Run p l e R s m args below meth c H locs cells slots mc ms (F0 m pc ls st0) rest (Qc As.toArray) XC free :=
  vx_runS C0 hM (va_cwS n C0.2.2.2.2 (good_c h1 (good_c h2 (good_c h4 (good_all h5)))) rfl hr.1 hr.2 hd hR) ⟨PreP.blind, fun U hU hW => ⟨rfl, PreP.call C1 hI hU hW⟩⟩ rfl hn hls hst (lv_room hW) hdg hf
variable {av : Array Value} {M' : Mem}
/-- the ends' words: an int, nothing, a constant of the enum of refusals; or thrown -/
abbrev Qi (g : GG) (X : va_W) (N : Nat) (sh : Shp) (b : Nat → Nat) (sz : Nat) (r0 : Int32) (M' : Mem) : Array Value → State → Outcome → State → Prop := va_Qi (fun r (_ : Unit) => r = r0) (fun _ t => PoP g X N sh b M' t) (AA X b N sz)
abbrev Qv (g : GG) (X : va_W) (N : Nat) (sh : Shp) (b : Nat → Nat) (sz : Nat) (M' : Mem) : Array Value → State → Outcome → State → Prop := va_Qv (fun (_ : Unit) => True) (fun _ t => PoP g X N sh b M' t) (AA X b N sz)
abbrev Qe (g : GG) (X : va_W) (N : Nat) (sh : Shp) (b : Nat → Nat) (sz : Nat) (r0 : Nat) (M' : Mem) : Array Value → State → Outcome → State → Prop := va_Qe (g.2.2 0) (fun r (_ : Unit) => r = some r0) (fun _ t => PoP g X N sh b M' t) (AA X b N sz)
theorem k_i (C1 : CX g X N sh b s) (hI : PI g X N sh b s M H locs) {r0 : Int32} (run : va_Run p l e R s m args below meth c H locs cells slots mc ms (F0 m pc ls st0) rest (Qi g X N sh b H.size r0 M' av) (AA X b N H.size))
    (kk : ∀ (H : Heap) (locs : List Loc), PI g X N sh b s M' H locs → W p l e R s m args below meth c H locs (cells + mc) (slots + ms) Q (F0 m (pc + 3) ls (.int r0 :: rest))) : W p l e R s m args below meth c H locs cells slots Q (F0 m pc ls st0) :=
  va_calli run hI.2 (fun q _ h => CX.fr hI q h) (CX.fr hI) (fun r u t H1 locs1 ht hvm hp hb hz hk hS => by subst hp; exact kk H1 locs1 ⟨by rw [← ht]; exact hb, hS⟩)
theorem k_v (C1 : CX g X N sh b s) (hI : PI g X N sh b s M H locs) (run : va_Run p l e R s m args below meth c H locs cells slots mc ms (F0 m pc ls st0) rest (Qv g X N sh b H.size M' av) (AA X b N H.size))
    (kk : ∀ (H : Heap) (locs : List Loc), PI g X N sh b s M' H locs → W p l e R s m args below meth c H locs (cells + mc) (slots + ms) Q (F0 m (pc + 3) ls rest)) : W p l e R s m args below meth c H locs cells slots Q (F0 m pc ls st0) :=
  va_callv run hI.2 (fun q _ h => CX.fr hI q h) (CX.fr hI) (fun u t H1 locs1 ht hvm hp hb hz hk hS => kk H1 locs1 ⟨by rw [← ht]; exact hb, hS⟩)
theorem k_e (C1 : CX g X N sh b s) (hI : PI g X N sh b s M H locs) {r0 : Nat} (run : va_Run p l e R s m args below meth c H locs cells slots mc ms (F0 m pc ls st0) rest (Qe g X N sh b H.size r0 M' av) (AA X b N H.size))
    (kk : ∀ (H : Heap) (locs : List Loc), PI g X N sh b s M' H locs → W p l e R s m args below meth c H locs (cells + mc) (slots + ms) Q (F0 m (pc + 3) ls (.ref (g.2.2 0 r0) :: rest))) : W p l e R s m args below meth c H locs cells slots Q (F0 m pc ls st0) :=
  va_calle run hI.2 (fun q _ h => CX.fr hI q h) (CX.fr hI) (fun r u t H1 locs1 ht hvm hp hb hz hk hS => by subst hp; exact kk H1 locs1 ⟨by rw [← ht]; exact hb, hS⟩)
/-! ===== ends ===== -/
theorem e_i (C0 : CallFix p m c cc nL s args LWg own) (hI : PI g X N sh b s M H locs) (hr : meth.sig.returnType = some .int) (hlocks : meth.locks = false) {v : Int32} (hdg : decode cc pc = .ok (.ireturn, 1)) : W p l e R s m args below meth c H locs cells slots (MQ below (Qi g X N sh b s.heap.size v M) args s cells slots (AA X b N s.heap.size)) (F0 m pc ls [.int v]) :=
  W.iret C0.1 C0.2.1 hr (fun t ht hW => ⟨⟨v, (), rfl, rfl, by show va_P _ _ _ t.heap; rw [ht]; exact hI.1⟩, hI.2.F ht⟩) hI.2.2.2 hdg hlocks
theorem e_z (C0 : CallFix p m c cc nL s args LWg own) (hI : PI g X N sh b s M H locs) {ty : FieldType} (hr : meth.sig.returnType = some ty) (hlocks : meth.locks = false) {v : Int32} (hn : narrow ty (.int v) = .int v) (hdg : decode cc pc = .ok (.ireturn, 1)) : W p l e R s m args below meth c H locs cells slots (MQ below (Qi g X N sh b s.heap.size v M) args s cells slots (AA X b N s.heap.size)) (F0 m pc ls [.int v]) :=
  W.zret C0.1 C0.2.1 hr hn (fun t ht hW => ⟨⟨v, (), rfl, rfl, by show va_P _ _ _ t.heap; rw [ht]; exact hI.1⟩, hI.2.F ht⟩) hI.2.2.2 hdg hlocks
theorem e_v (C0 : CallFix p m c cc nL s args LWg own) (hI : PI g X N sh b s M H locs) (hr : meth.sig.returnType = none) (hlocks : meth.locks = false) (hdg : decode cc pc = .ok (.return_, 1)) : W p l e R s m args below meth c H locs cells slots (MQ below (Qv g X N sh b s.heap.size M) args s cells slots (AA X b N s.heap.size)) (F0 m pc ls []) :=
  W.vret C0.1 C0.2.1 hr (fun t ht hW => ⟨⟨(), rfl, trivial, by show va_P _ _ _ t.heap; rw [ht]; exact hI.1⟩, hI.2.F ht⟩) hI.2.2.2 hdg hlocks
theorem e_e (C0 : CallFix p m c cc nL s args LWg own) (hI : PI g X N sh b s M H locs) (hr : meth.sig.returnType = some (.object "FrogParliament$Refusal")) (hlocks : meth.locks = false) {v : Nat} (hdg : decode cc pc = .ok (.areturn, 1)) : W p l e R s m args below meth c H locs cells slots (MQ below (Qe g X N sh b s.heap.size v M) args s cells slots (AA X b N s.heap.size)) (F0 m pc ls [.ref (g.2.2 0 v)]) :=
  W.aret C0.1 C0.2.1 hr (Or.inl ⟨_, rfl⟩) (Or.inr ⟨_, rfl⟩) (fun t ht hW => ⟨⟨some v, (), rfl, rfl, by show va_P _ _ _ t.heap; rw [ht]; exact hI.1⟩, hI.2.F ht⟩) hI.2.2.2 hdg hlocks
end ROWS
