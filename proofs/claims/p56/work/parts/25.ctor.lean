/-! ===== constructors: worlds that are being built ===== -/
def b00 : Nat → Nat := fun _ => 0
def PreC (g : GG) (ws : va_W) (sz : Nat) (U : State) : Prop :=
  U.heap.size = sz ∧ va_P g.1 vwCl ws U.heap ∧ va_K g.1 vwCl (tysG g) U ∧ va_D (fun _ => True) ws ∧ ST g (AA ws b00 0 sz) U U.heap ∧ NW U
theorem PreC.blind {g : GG} {ws : va_W} {sz : Nat} {av : List Value} : FrameBlind (va_Pc av (PreC g ws sz)) := fun a U gf mk h => by
  obtain ⟨h0, h1, h2, h3, h4, h5, h6⟩ := h
  exact ⟨h0, h1, h2, va_K.moved (u := U) (U := U.calling gf mk a) (Vm.Alike.refl U.vm) h3, h4, ST.moved (u := U) (U := U.calling gf mk a) (Vm.Alike.refl U.vm) h5, NW.calling h6⟩
/-- what stays over a walk -/
def CC (g : GG) (A : Nat → Prop) (s : State) : Prop := va_K g.1 vwCl (tysG g) s ∧ (∀ q, s.heap.size ≤ q → A q) ∧ ST g A s s.heap ∧ NW s
/-- what moves -/
def KI (g : GG) (A : Nat → Prop) (s : State) (ws : va_W) (H : Heap) (locs : List Loc) : Prop := va_P g.1 vwCl ws H ∧ va_D A ws ∧ va_S A s.heap H locs
theorem AC_in {A : Nat → Prop} {ws : va_W} {n : Nat} (h : va_D A ws) (hA : ∀ q, n ≤ q → A q) : ∀ q, AA ws b00 0 n q → A q := fun q hq => by
  rcases AA_iff.mp hq with z | ⟨k, hk, -⟩ | z
  · obtain ⟨p, hp, rfl⟩ := List.mem_map.mp z
    exact (vD_iff.mp h).2 p hp
  · exact absurd hk (Nat.not_lt_zero k)
  · exact hA q z
theorem PreC.call {g : GG} {A : Nat → Prop} {ws : va_W} {s : State} {H : Heap} {locs : List Loc} (hC : CC g A s) (hI : KI g A s ws H locs) {U : State} (hU : U.heap = H) (hW : s.WarmedH U.vm) : PreC g ws H.size U :=
  ⟨by rw [hU], by rw [hU]; exact hI.1, va_K.moved hW.alike hC.1, hI.2.1.weaken (fun _ _ _ _ => trivial), by rw [hU]; exact ((hC.2.2.1.kept hI.2.2.2.1).moved hW.alike).narrow (AC_in hI.2.1 (fun q hq => hC.2.1 q (Nat.le_trans hI.2.2.1 hq))), NW.warm hW hC.2.2.2⟩
theorem KI.perm {g : GG} {A : Nat → Prop} {s : State} {ws ws' : va_W} {H : Heap} {locs : List Loc} (h : KI g A s ws H locs) (hp : List.Perm ws' ws) : KI g A s ws' H locs :=
  ⟨vP_iff.mpr fun q hq => vP_iff.mp h.1 q (hp.mem_iff.mp hq), vD_iff.mpr ⟨(hp.map _).nodup_iff.mpr (vD_iff.mp h.2.1).1, fun q hq => (vD_iff.mp h.2.1).2 q (hp.mem_iff.mp hq)⟩, h.2.2⟩
theorem pm_end {α : Type} {ws : List α} {c : α} : List.Perm (c :: ws) (ws ++ [c]) := (List.perm_append_singleton c ws).symm
theorem pm_mid {α : Type} {a b r : List α} : List.Perm (a ++ (b ++ r)) (b ++ (a ++ r)) := by
  rw [← List.append_assoc, ← List.append_assoc]
  exact List.perm_append_comm.append_right r
abbrev QC {σ : Type} (g : GG) (X0 ws : va_W) (sz : Nat) (ok : σ → Prop) (blk : σ → va_W) : Array Value → State → Outcome → State → Prop :=
  va_Qv ok (fun u t => va_P g.1 vwCl (blk u ++ X0) t.heap ∧ va_D (AA ws b00 0 sz) (blk u ++ X0)) (AA ws b00 0 sz)
theorem metC_go {l : Launch} {y : MethodName} {cc : ByteArray} {maxL : Nat} {rm : Room} {g : GG} {ws : va_W} {sz : Nat} {av : List Value} {own : String} {Qc : Array Value → State → Outcome → State → Prop} {mc ms : Nat} {free : Addr → Prop}
    (hy : plainName y.cls = true) (hown : y.cls = own) (hlen : (lg_sl av).length ≤ maxL)
    (body : ∀ (p : Program) (e : Env) (s : State) (m : MethodId) (below : List Frame) (meth : Method) (c : Code) (ls : Array Slot) (H : Heap) (locs : List Loc), CallFix p m c cc maxL s av.toArray LWg own → CC g (AA ws b00 0 s.heap.size) s → meth.sig.returnType = none → meth.locks = false → meth.name = y.name → sz = s.heap.size → lv_has ls maxL (lv_args 0 av) → KI g (AA ws b00 0 s.heap.size) s ws H locs →
      W p l e rm s m av.toArray below meth c H locs 0 0 (MQ below Qc av.toArray s mc ms free) (F0 m 0 ls [])) : Met l y (.code y cc maxL none :: LWg) rm (va_Pc av (PreC g ws sz)) Qc mc ms free := by
  refine Met.ofW (cc := cc) (maxL := maxL) (ret := none) hy rfl ?_
  intro p e s m args below meth c s₁ B hml hv
  obtain ⟨rfl, hsz, h1, h2, h3, h4, h5⟩ := hv
  subst hsz
  have hl := lv_entry av (n := maxL) hlen
  rw [lg_entry_eq]
  have hD : va_D (AA ws b00 0 s.heap.size) ws := vD_iff.mpr ⟨(vD_iff.mp h3).1, fun q hq => AA_iff.mpr (Or.inl (List.mem_map.mpr ⟨q, hq, rfl⟩))⟩
  exact body p e s m below meth c _ _ _ ⟨B.exec, B.bytes, hml, by rw [← hown]; exact findClass_of_methodNamed B.named, fun w hw => atoms_spec (ws := .code y cc maxL none :: LWg) B.pre w (List.mem_cons_of_mem _ hw)⟩ ⟨h2, fun q hq => AA_iff.mpr (Or.inr (Or.inr hq)), h4, h5⟩ B.returns B.notSynchronized (name_of_methodNamed B.named B.method).1 rfl hl ⟨h1, hD, va_S.rf⟩
section CTOR
variable {p : Program} {l : Launch} {e : Env} {R : Room} {s : State} {m : MethodId} {args : Array Value} {below : List Frame} {meth : Method} {c : Code} {H : Heap} {locs : List Loc} {cells slots : Nat} {Q : State → Prop}
variable {cc : ByteArray} {nL : Nat} {own : String} {pc : Nat} {ls : Array Slot} {rest st0 : List Value} {g : GG} {A : Nat → Prop} {ws : va_W} {index : Nat}
theorem n_obj (C0 : CallFix p m c cc nL s args LWg own) (hls : ls.size = nL) (hw : (.methodLink own index Lib.objectInit) ∈ LWg) {a : Addr} (hdg : decode cc pc = .ok (.invokespecial index, 3)) (hR : 1 ≤ R.frames ∧ (rest.map fun v => v.category).sum + 12 ≤ R.locals)
    (kk : W p l e R s m args below meth c H locs cells slots Q (F0 m (pc + 3) ls rest)) : W p l e R s m args below meth c H locs cells slots Q (F0 m pc ls (.ref a :: rest)) :=
  W.objInit (g := F0 m pc ls (.ref a :: rest)) C0.1 C0.2.1 C0.2.2.2.1 (C0.2.2.2.2 _ hw) (C0.2.2.2.2 _ w_112) (C0.2.2.2.2 _ w_113) rfl (hls.trans C0.2.2.1.symm) rfl hdg hR.1 (by show 2 * 0 + _ + 12 ≤ _; omega) kk
theorem n_new (C0 : CallFix p m c cc nL s args LWg own) (hC : CC g A s) (hI : KI g A s ws H locs) {C : String} {T : u_T} {N ci : Nat} (hin : ∀ w ∈ u_ws C T N, w ∈ LWg) (ty : Nat → FieldType) (hty : ∀ k, k < N → parseFieldDescriptor (T k).2.2.1 = some (ty k)) (h1 : (.classLink own index C) ∈ LWg) (h2 : (.instantiable C N) ∈ LWg) (h3 : (.initialized C) ∈ LWg) (hc : vwCl[ci]? = some (C, T, N)) {fs : List Value} (hfs : ∀ j, j < N → defaultValue (ty j) = vp_V fs j) (hcells : cells + 1 ≤ R.cells) (hslots : slots + N ≤ R.slots) (hdg : decode cc pc = .ok (.new index, 3))
    (kk : ∀ (q : Nat) (H : Heap), KI g A s ((q, .inr (ci, fs)) :: ws) H locs → W p l e R s m args below meth c H locs (cells + 1) (slots + N) Q (F0 m (pc + 3) ls (.ref q :: rest))) : W p l e R s m args below meth c H locs cells slots Q (F0 m pc ls rest) :=
  va_new (C := C) (T := T) C0.1 C0.2.1 C0.2.2.2.2 hin ty hty C0.2.2.2.1 (C0.2.2.2.2 _ h1) (C0.2.2.2.2 _ h2) (C0.2.2.2.2 _ h3) hC.1 hI.1 hI.2.1 hI.2.2 hC.2.1 hc hfs hcells hslots hdg (fun q H1 hP hD hS => kk q H1 (KI.perm ⟨hP, hD, hS⟩ pm_end))
theorem cls_eq {cA cB : ClassId} {ty : FieldType} {s : State} (h1 : va_RA s cA ty) (h2 : va_RA s cB ty) : cA = cB := by
  have key : ∀ c9, va_RA s c9 ty → s.vm.findClass ("[" ++ ty.toString) = some c9 := by
    intro c9 h
    cases ty <;> first | exact h | (obtain ⟨_, _, _, _, _, z⟩ := h; exact z)
  exact Option.some.inj ((key _ h1).symm.trans (key _ h2))
theorem n_newi (C0 : CallFix p m c cc nL s args LWg own) (hC : CC g A s) (hI : KI g A s ws H locs) {n : Int32} {N' : Nat} (hn : ¬ n < 0) (hN : n.toNatClampNeg = N') (hb5 : N' * 4 ≤ 536870912) (hcells : cells + 1 ≤ R.cells) (hslots : slots + N' ≤ R.slots) (hdg : decode cc pc = .ok (.newarray .int, 2))
    (kk : ∀ (q : Nat) (H : Heap), KI g A s ((q, .inl (g.2.1 0, N', .inl (fun _ => 0))) :: ws) H locs → W p l e R s m args below meth c H locs (cells + 1) (slots + N') Q (F0 m (pc + 2) ls (.ref q :: rest))) : W p l e R s m args below meth c H locs cells slots Q (F0 m pc ls (.int n :: rest)) :=
  va_newa (atype := .int) (N' := N') (a0 := (N', .inl (fun _ => 0))) C0.1 C0.2.1 (C0.2.2.2.2 _ w_185) rfl hC.1 hI.1 hI.2.1 hI.2.2 hC.2.1 (fun _ => rfl) hn hN hb5 hcells hslots hdg (fun q cA H1 hK hP hD hS => by
    have e1 := cls_eq (hK.2 5 (cA, .int) rfl).2 (hK.2 0 (g.2.1 0, .int) rfl).2
    subst e1
    exact kk q H1 (KI.perm ⟨hP, hD, hS⟩ pm_end))
theorem n_newb (C0 : CallFix p m c cc nL s args LWg own) (hC : CC g A s) (hI : KI g A s ws H locs) {n : Int32} {N' : Nat} (hn : ¬ n < 0) (hN : n.toNatClampNeg = N') (hb5 : N' * 1 ≤ 536870912) (hcells : cells + 1 ≤ R.cells) (hslots : slots + N' ≤ R.slots) (hdg : decode cc pc = .ok (.newarray .byte, 2))
    (kk : ∀ (q : Nat) (H : Heap), KI g A s ((q, .inl (g.2.1 4, N', .inl (fun _ => 0))) :: ws) H locs → W p l e R s m args below meth c H locs (cells + 1) (slots + N') Q (F0 m (pc + 2) ls (.ref q :: rest))) : W p l e R s m args below meth c H locs cells slots Q (F0 m pc ls (.int n :: rest)) :=
  va_newa (atype := .byte) (N' := N') (a0 := (N', .inl (fun _ => 0))) C0.1 C0.2.1 (C0.2.2.2.2 _ w_341) rfl hC.1 hI.1 hI.2.1 hI.2.2 hC.2.1 (fun _ => rfl) hn hN hb5 hcells hslots hdg (fun q cA H1 hK hP hD hS => by
    have e1 := cls_eq (hK.2 5 (cA, .byte) rfl).2 (hK.2 4 (g.2.1 4, .byte) rfl).2
    subst e1
    exact kk q H1 (KI.perm ⟨hP, hD, hS⟩ pm_end))
theorem n_newq (C0 : CallFix p m c cc nL s args LWg own) (hC : CC g A s) (hI : KI g A s ws H locs) {C : String} (k9 : Nat) (ha : aoL[k9]? = some C) {t0 : Nat} (ht : (tysG g)[t0]? = some (g.2.1 t0, .object C)) (h1 : (.classLink own index C) ∈ LWg) {n : Int32} {N' : Nat} (hn : ¬ n < 0) (hN : n.toNatClampNeg = N') (hb5 : N' * 4 ≤ 536870912) (hcells : cells + 1 ≤ R.cells) (hslots : slots + N' ≤ R.slots) (hdg : decode cc pc = .ok (.anewarray index, 3))
    (kk : ∀ (q : Nat) (H : Heap), KI g A s ((q, .inl (g.2.1 t0, N', .inr (.inr (.inr (.inr (fun _ => none)))))) :: ws) H locs → W p l e R s m args below meth c H locs (cells + 1) (slots + N') Q (F0 m (pc + 3) ls (.ref q :: rest))) : W p l e R s m args below meth c H locs cells slots Q (F0 m pc ls (.int n :: rest)) :=
  va_newq (C := C) C0.1 C0.2.1 C0.2.2.2.1 (C0.2.2.2.2 _ h1) (hC.2.2.2.2.2.2.2.1 _ (List.mem_of_getElem? ha)) hC.1 hI.1 hI.2.1 hI.2.2 hC.2.1 hn hN hb5 hcells hslots hdg (fun q cA H1 hK hP hD hS => by
    have e1 := cls_eq (hK.2 5 (cA, .object C) rfl).2 (hC.1.2 t0 _ ht).2
    subst e1
    exact kk q H1 (KI.perm ⟨hP, hD, hS⟩ pm_end))
theorem n_putF (C0 : CallFix p m c cc nL s args LWg own) (hC : CC g A s) (hI : KI g A s ws H locs) (hnm0 : meth.name = "<init>") {C : String} {T : u_T} {N ci : Nat} (hin : ∀ w ∈ u_ws C T N, w ∈ LWg) (ty0 : Nat → FieldType) (hty : ∀ k, k < N → parseFieldDescriptor (T k).2.2.1 = some (ty0 k)) (hnm : ∀ a, a < N → ∀ b, b < N → a ≠ b → (T a).2.1 ≠ (T b).2.1) (q0 : Nat) {a : Nat} {fs : List Value} (he : ws[q0]? = some (a, .inr (ci, fs))) (hc : vwCl[ci]? = some (C, T, N)) (k : Nat) (hk : k < N) (hw : (.fieldLink own index (T k).1 (T k).2.1 (T k).2.2.1) ∈ LWg) (hfin : (T k).2.2.2 = true) (hdecl : (T k).1 = own) {ty : FieldType} {v : Value} (hd : parseFieldDescriptor (T k).2.2.1 = some ty) (hn : narrow ty v = v) (hfit : fits ty v = true) (hl : k < fs.length) (hdg : decode cc pc = .ok (.putfield index, 3))
    (kk : ∀ (H : Heap) (locs : List Loc), KI g A s (ws.set q0 (a, .inr (ci, fs.set k v))) H locs → W p l e R s m args below meth c H locs cells slots Q (F0 m (pc + 3) ls rest)) : W p l e R s m args below meth c H locs cells slots Q (F0 m pc ls (v :: .ref a :: rest)) :=
  va_putF (C := C) (T := T) C0.1 C0.2.1 C0.2.2.2.2 hin ty0 hty hnm C0.2.2.2.1 hC.1 hI.1 hI.2.1 hI.2.2 q0 he hc k hk (C0.2.2.2.2 _ hw) (fun x h => h) hfin hnm0 hdecl hd hn hfit hl hdg (fun H1 locs1 hP hD hS => kk H1 locs1 ⟨hP, hD, hS⟩)
theorem n_put (C0 : CallFix p m c cc nL s args LWg own) (hC : CC g A s) (hI : KI g A s ws H locs) {C : String} {T : u_T} {N ci : Nat} (hin : ∀ w ∈ u_ws C T N, w ∈ LWg) (ty0 : Nat → FieldType) (hty : ∀ k, k < N → parseFieldDescriptor (T k).2.2.1 = some (ty0 k)) (hnm : ∀ a, a < N → ∀ b, b < N → a ≠ b → (T a).2.1 ≠ (T b).2.1) (q0 : Nat) {a : Nat} {fs : List Value} (he : ws[q0]? = some (a, .inr (ci, fs))) (hc : vwCl[ci]? = some (C, T, N)) (k : Nat) (hk : k < N) (hw : (.fieldLink own index (T k).1 (T k).2.1 (T k).2.2.1) ∈ LWg) (hfin : (T k).2.2.2 = false) {ty : FieldType} {v : Value} (hd : parseFieldDescriptor (T k).2.2.1 = some ty) (hn : narrow ty v = v) (hfit : fits ty v = true) (hl : k < fs.length) (hdg : decode cc pc = .ok (.putfield index, 3))
    (kk : ∀ (H : Heap) (locs : List Loc), KI g A s (ws.set q0 (a, .inr (ci, fs.set k v))) H locs → W p l e R s m args below meth c H locs cells slots Q (F0 m (pc + 3) ls rest)) : W p l e R s m args below meth c H locs cells slots Q (F0 m pc ls (v :: .ref a :: rest)) :=
  va_put (C := C) (T := T) C0.1 C0.2.1 C0.2.2.2.2 hin ty0 hty hnm C0.2.2.2.1 hC.1 hI.1 hI.2.1 hI.2.2 q0 he hc k hk (C0.2.2.2.2 _ hw) (fun x h => h) hfin hd hn hfit hl hdg (fun H1 locs1 hP hD hS => kk H1 locs1 ⟨hP, hD, hS⟩)
theorem n_get (C0 : CallFix p m c cc nL s args LWg own) (hC : CC g A s) (hI : KI g A s ws H locs) {C : String} {T : u_T} {N ci : Nat} (hin : ∀ w ∈ u_ws C T N, w ∈ LWg) (q0 : Nat) {a : Nat} {fs : List Value} {v : Value} (he : ws[q0]? = some (a, .inr (ci, fs))) (hc : vwCl[ci]? = some (C, T, N)) (k : Nat) (hk : k < N) (hv : fs[k]? = some v) (hw : (.fieldLink own index (T k).1 (T k).2.1 (T k).2.2.1) ∈ LWg) (hdg : decode cc pc = .ok (.getfield index, 3))
    (kk : W p l e R s m args below meth c H locs cells slots Q (F0 m (pc + 3) ls (v :: rest))) : W p l e R s m args below meth c H locs cells slots Q (F0 m pc ls (.ref a :: rest)) :=
  va_get (C := C) (T := T) C0.1 C0.2.1 C0.2.2.2.2 hin C0.2.2.2.1 hC.1 hI.1 q0 he hc k hk (C0.2.2.2.2 _ hw) (fun x h => h) hv hdg kk
theorem n_aast (C0 : CallFix p m c cc nL s args LWg own) (hC : CC g A s) (hI : KI g A s ws H locs) (q0 t0 qk ci : Nat) {cA : ClassId} {r : vw_C} {n v a : Nat} {vs : List Value} {f : Nat → Option Nat} (ha : ws[q0]? = some (a, .inl (cA, n, .inr (.inr (.inr (.inr f)))))) (ht : (tysG g)[t0]? = some (cA, .object r.1)) (hv : ws[qk]? = some (v, .inr (ci, vs))) (hc : vwCl[ci]? = some r) {i : Int32} (hin : inb i n = true) (hdg : decode cc pc = .ok (.aastore, 1))
    (kk : ∀ (H : Heap) (locs : List Loc), KI g A s (ws.set q0 (a, .inl (cA, n, .inr (.inr (.inr (.inr (va_up f (ix i) (some v)))))))) H locs → W p l e R s m args below meth c H locs cells slots Q (F0 m (pc + 1) ls rest)) : W p l e R s m args below meth c H locs cells slots Q (F0 m pc ls (.ref v :: .int i :: .ref a :: rest)) :=
  va_astq C0.1 C0.2.1 hC.1 hI.1 hI.2.1 hI.2.2 q0 t0 qk ci ha ht hv hc (inb_in hin) hdg (fun H1 locs1 hP hD hS => kk H1 locs1 ⟨hP, hD, hS⟩)
theorem n_iast (C0 : CallFix p m c cc nL s args LWg own) (hC : CC g A s) (hI : KI g A s ws H locs) (q0 : Nat) {n a : Nat} {f : Nat → Int32} (ha : ws[q0]? = some (a, .inl (g.2.1 0, n, .inl f))) {i x : Int32} (hin : inb i n = true) (hdg : decode cc pc = .ok (.iastore, 1))
    (kk : ∀ (H : Heap) (locs : List Loc), KI g A s (ws.set q0 (a, .inl (g.2.1 0, n, .inl (upd f (ix i) x)))) H locs → W p l e R s m args below meth c H locs cells slots Q (F0 m (pc + 1) ls rest)) : W p l e R s m args below meth c H locs cells slots Q (F0 m pc ls (.int x :: .int i :: .ref a :: rest)) :=
  va_iast C0.1 C0.2.1 hC.1 hI.1 hI.2.1 hI.2.2 q0 0 ha rfl (inb_in hin) hdg (fun H1 locs1 hP hD hS => kk H1 locs1 ⟨hP, hD, hS⟩)
theorem n_cs (C0 : CallFix p m c cc nL s args LWg own) (hC : CC g A s) (hI : KI g A s ws H locs) (hw : (.fieldLink own index RJ0 "COMPACT_STRINGS" "Z") ∈ LWg) (hdg : decode cc pc = .ok (.getstatic index, 3))
    (kk : W p l e R s m args below meth c H locs cells slots Q (F0 m (pc + 3) ls (.int 1 :: rest))) : W p l e R s m args below meth c H locs cells slots Q (F0 m pc ls rest) :=
  va_gets (C := RJ0) (n := "COMPACT_STRINGS") C0.1 C0.2.1 hC.2.2.1.2.2.2.2.2.2.2.2.2.2.2.2.1 hI.2.2 C0.2.2.2.1 (C0.2.2.2.2 _ hw) (fun _ h => h) hdg kk
theorem n_frog (C0 : CallFix p m c cc nL s args LWg own) (hC : CC g A s) (hI : KI g A s ws H locs) (hw : (.fieldLink own index RX1 "FROG" "LFrogParliament$Action;") ∈ LWg) (hdg : decode cc pc = .ok (.getstatic index, 3))
    (kk : W p l e R s m args below meth c H locs cells slots Q (F0 m (pc + 3) ls (.ref (g.2.2 1 0) :: rest))) : W p l e R s m args below meth c H locs cells slots Q (F0 m pc ls rest) :=
  va_gets (C := RX1) (n := "FROG") C0.1 C0.2.1 (hC.2.2.1.2.1.1 0 (by decide)).1 hI.2.2 C0.2.2.2.1 (C0.2.2.2.2 _ hw) (fun _ h => h) hdg kk
variable {y : MethodName} {bytes : ByteArray} {maxL n mc ms : Nat} {rm : Room} {As : List Value} {Qc : Array Value → State → Outcome → State → Prop} {free : Addr → Prop} {a : Nat}
/-- the call of a constructor, and what stands behind it -/
theorem n_I (C0 : CallFix p m c cc nL s args LWg own) (hC : CC g A s) (hI : KI g A s ws H locs) (hM : Met l y (.code y bytes maxL none :: LWg) rm (va_Pc (.ref a :: As) (PreC g ws H.size)) Qc mc ms free) (h1 : (.methodLink own index y) ∈ LWg) (h2 : (.instanceMethod y) ∈ LWg) (h4 : (.initialized y.cls) ∈ LWg) (h5 : (.code y bytes maxL none) ∈ LWg) (hy1 : y.name = "<init>")
    (hr : rm.cells = mc ∧ rm.slots = ms) (hd : y.cls ≠ "java/lang/invoke/MethodHandle" ∧ y.cls ≠ "java/lang/invoke/VarHandle" ∧ (parseMethodDescriptor y.desc).map (fun d => d.parameters.length) = some n) (hR : rm.frames + 1 ≤ R.frames ∧ 8 + (maxL + 11) + rm.locals ≤ R.locals)
    (hn : As.length = n) (hls : ls.size = nL) (hst : st0 = As.reverse ++ .ref a :: rest) (hW : (rest.map fun v => v.category).sum ≤ 8) (hdg : decode cc pc = .ok (.invokespecial index, 3)) (hf : cells + mc ≤ R.cells ∧ slots + ms ≤ R.slots) :
    va_Run p l e R s m args below meth c H locs cells slots mc ms (F0 m pc ls st0) rest (Qc (Value.ref a :: As).toArray) free :=
  va_runI C0 hM (cwI n C0.2.2.2.2 (good_all h5) rfl hr.1 hr.2 (C0.2.2.2.2 _ h4) (C0.2.2.2.2 _ h1) (C0.2.2.2.2 _ h2) hy1 hd hR) ⟨PreC.blind, fun U hU hW => ⟨rfl, PreC.call hC hI hU hW⟩⟩ rfl hn hls hst (lv_room hW) hdg hf
theorem n_IN (C0 : CallFix p m c cc nL s args LWg own) (hC : CC g A s) (hI : KI g A s ws H locs) (hM : Met l y (.code y bytes maxL none :: LWg) rm (va_Pc (.ref a :: As) (PreC g ws H.size)) Qc mc ms free) {host : String} (i : Nat) (h1 : nestM[i]? = some (own, index, y, host)) (h2 : (.instanceMethod y) ∈ LWg) (h4 : (.initialized y.cls) ∈ LWg) (h5 : (.code y bytes maxL none) ∈ LWg) (hy1 : y.name = "<init>")
    (hr : rm.cells = mc ∧ rm.slots = ms) (hd : y.cls ≠ "java/lang/invoke/MethodHandle" ∧ y.cls ≠ "java/lang/invoke/VarHandle" ∧ (parseMethodDescriptor y.desc).map (fun d => d.parameters.length) = some n) (hR : rm.frames + 1 ≤ R.frames ∧ 8 + (maxL + 11) + rm.locals ≤ R.locals)
    (hn : As.length = n) (hls : ls.size = nL) (hst : st0 = As.reverse ++ .ref a :: rest) (hW : (rest.map fun v => v.category).sum ≤ 8) (hdg : decode cc pc = .ok (.invokespecial index, 3)) (hf : cells + mc ≤ R.cells ∧ slots + ms ≤ R.slots) :
    va_Run p l e R s m args below meth c H locs cells slots mc ms (F0 m pc ls st0) rest (Qc (Value.ref a :: As).toArray) free :=
  va_runIN C0 hM ⟨va_cnB n C0.2.2.2.2 (good_all h5) rfl hr.1 hr.2 (hC.2.2.2.1 _ (List.mem_of_getElem? h1)) (C0.2.2.2.2 _ h4) hd hR, hy1, C0.2.2.2.2 _ h2⟩ ⟨PreC.blind, fun U hU hW => ⟨rfl, PreC.call hC hI hU hW⟩⟩ rfl hn hls hst (lv_room hW) hdg hf
theorem n_call {σ : Type} {ok : σ → Prop} {blk : σ → va_W} {hot Rr : va_W} {av : Array Value} {e0 : Nat × va_E} (hC : CC g A s) (hI : KI g A s (e0 :: (hot ++ Rr)) H locs) (run : va_Run p l e R s m args below meth c H locs cells slots mc ms (F0 m pc ls st0) rest (QC g (hot ++ Rr) (e0 :: (hot ++ Rr)) H.size ok blk av) (AA (e0 :: (hot ++ Rr)) b00 0 H.size))
    (kk : ∀ (u : σ) (H : Heap) (locs : List Loc), ok u → KI g A s (hot ++ (blk u ++ Rr)) H locs → W p l e R s m args below meth c H locs (cells + mc) (slots + ms) Q (F0 m (pc + 3) ls rest)) : W p l e R s m args below meth c H locs cells slots Q (F0 m pc ls st0) :=
  have hAA := AC_in hI.2.1 (fun q hq => hC.2.1 q (Nat.le_trans hI.2.2.1 hq))
  va_callv run hI.2.2 (fun q _ h => hAA q h) (fun q h => hAA q h) (fun u t H1 locs1 ht hvm hp hb hz hk hS => kk u H1 locs1 hp (KI.perm ⟨by rw [← ht]; exact hb.1, vD_iff.mpr ⟨(vD_iff.mp hb.2).1, fun q hq => hAA _ ((vD_iff.mp hb.2).2 q hq)⟩, hS⟩ pm_mid))
theorem n_end {σ : Type} {ok : σ → Prop} {blk : σ → va_W} {X0 ws0 : va_W} (C0 : CallFix p m c cc nL s args LWg own) (hI : KI g (AA ws0 b00 0 s.heap.size) s ws H locs) (hr : meth.sig.returnType = none) (hlocks : meth.locks = false) (u : σ) (hu : ok u) (hw : ws = blk u ++ X0) (hdg : decode cc pc = .ok (.return_, 1)) : W p l e R s m args below meth c H locs cells slots (MQ below (QC g X0 ws0 s.heap.size ok blk) args s cells slots (AA ws0 b00 0 s.heap.size)) (F0 m pc ls []) :=
  W.vret C0.1 C0.2.1 hr (fun t ht hW => ⟨⟨u, rfl, hu, by rw [ht, ← hw]; exact hI.1, by rw [← hw]; exact hI.2.1⟩, hI.2.2.F ht⟩) hI.2.2.2.2 hdg hlocks
end CTOR
abbrev i12 (g : GG) : va_E := .inl (g.2.1 0, 12, .inl (fun _ => 0))
abbrev z0 : Nat → Int32 := fun _ => 0
def upq (f : Nat → Nat) : Nat → Nat → Option Nat
  | 0 => fun _ => none
  | n + 1 => va_up (upq f n) n (some (f n))
abbrev rqs (g : GG) (t n : Nat) (f : Nat → Nat) : va_E := .inl (g.2.1 t, n, .inr (.inr (.inr (.inr (upq f n)))))
def blMo (g : GG) (u : Nat → Nat) : va_W := [(u 3, i12 g), (u 2, i12 g), (u 1, i12 g), (u 0, .inr (8, fMo u 0 z0))]
abbrev tyA : Type := (Nat → Nat) × (Nat → Nat → Nat)
def blA (g : GG) (u : tyA) : va_W := [(u.1 6, rqs g 1 6 (fun i => u.2 i 0)), (u.1 5, .inl (g.2.1 0, 6, .inl z0)), (u.1 4, i12 g), (u.1 3, i12 g), (u.1 2, i12 g), (u.1 1, i12 g), (u.1 0, .inr (4, fA u.1 0 z0))] ++ (blMo g (u.2 5) ++ (blMo g (u.2 4) ++ (blMo g (u.2 3) ++ (blMo g (u.2 2) ++ (blMo g (u.2 1) ++ blMo g (u.2 0))))))
abbrev tyH : Type := (Nat → Nat) × (Nat → tyA)
def blH (g : GG) (u : tyH) : va_W := [(u.1 1, rqs g 2 8 (fun i => (u.2 i).1 0)), (u.1 0, .inr (7, fH u.1 0 z0))] ++ (blA g (u.2 7) ++ (blA g (u.2 6) ++ (blA g (u.2 5) ++ (blA g (u.2 4) ++ (blA g (u.2 3) ++ (blA g (u.2 2) ++ (blA g (u.2 1) ++ (blA g (u.2 0)))))))))
def blQ (g : GG) (u : Nat → Nat) : va_W := [(u 1, i12 g), (u 0, .inr (9, fQ u 0 z0))]
def blC (g : GG) (u : Nat → Nat) : va_W := [(u 1, .inl (g.2.1 0, 4, .inl z0)), (u 0, .inr (5, fC g u 0 z0))]
def blR (g : GG) (u : tyA) : va_W := [(u.1 1, rqs g 3 11 (fun i => u.2 i 0)), (u.1 0, .inr (6, fR u.1 0 z0))] ++ (blC g (u.2 10) ++ (blC g (u.2 9) ++ (blC g (u.2 8) ++ (blC g (u.2 7) ++ (blC g (u.2 6) ++ (blC g (u.2 5) ++ (blC g (u.2 4) ++ (blC g (u.2 3) ++ (blC g (u.2 2) ++ (blC g (u.2 1) ++ (blC g (u.2 0))))))))))))
def blS (g : GG) (u : Nat → Nat) : va_W := [(u 1, .inl (g.2.1 4, 16, .inl z0)), (u 0, .inr (1, [.ref (u 1), .int 0, .int 0, .int 0]))]
abbrev tyP : Type := (Nat → Nat) × (Nat → tyA) × tyH × tyA
def blP (g : GG) (a : Nat) (u : tyP) : va_W := [(a, .inr (10, [.ref ((u.2.1 0).1 0), .ref ((u.2.1 1).1 0), .ref ((u.2.1 2).1 0), .int 0, .ref (u.2.2.1.1 0), .ref (u.1 0), .ref (u.2.2.2.1 0), .ref (u.1 2), .ref (u.1 4), .int (-1), .int (-1)]))] ++ (blS g (fun j => u.1 (4 + j)) ++ (blS g (fun j => u.1 (2 + j)) ++ (blR g u.2.2.2 ++ (blQ g u.1 ++ (blH g u.2.2.1 ++ (blA g (u.2.1 2) ++ (blA g (u.2.1 1) ++ blA g (u.2.1 0))))))))
theorem ixl_0 : ix (0 : Int32) = 0 := by decide
theorem ixl_1 : ix (1 : Int32) = 1 := by decide
theorem ixl_2 : ix (2 : Int32) = 2 := by decide
theorem ixl_3 : ix (3 : Int32) = 3 := by decide
theorem ixl_4 : ix (4 : Int32) = 4 := by decide
theorem ixl_5 : ix (5 : Int32) = 5 := by decide
theorem ixl_6 : ix (6 : Int32) = 6 := by decide
theorem ixl_7 : ix (7 : Int32) = 7 := by decide
theorem ixl_8 : ix (8 : Int32) = 8 := by decide
theorem ixl_9 : ix (9 : Int32) = 9 := by decide
theorem ixl_10 : ix (10 : Int32) = 10 := by decide
theorem ixl_11 : ix (11 : Int32) = 11 := by decide
theorem fr_RX2 : ∀ j, j < 12 → defaultValue (tyX2 j) = vp_V [.int 0, .null, .null, .null, .null, .int 0, .int 0, .null, .int 0, .null, .int 0, .int 0] j := fun j hj => match j, hj with
  | 0, _ => rfl
  | 1, _ => rfl
  | 2, _ => rfl
  | 3, _ => rfl
  | 4, _ => rfl
  | 5, _ => rfl
  | 6, _ => rfl
  | 7, _ => rfl
  | 8, _ => rfl
  | 9, _ => rfl
  | 10, _ => rfl
  | 11, _ => rfl
  | n + 12, h => absurd h (by omega)
theorem fr_RX3 : ∀ j, j < 3 → defaultValue (tyX3 j) = vp_V [.null, .null, .int 0] j := fun j hj => match j, hj with
  | 0, _ => rfl
  | 1, _ => rfl
  | 2, _ => rfl
  | n + 3, h => absurd h (by omega)
theorem fr_RX4 : ∀ j, j < 3 → defaultValue (tyX4 j) = vp_V [.null, .int 0, .int 0] j := fun j hj => match j, hj with
  | 0, _ => rfl
  | 1, _ => rfl
  | 2, _ => rfl
  | n + 3, h => absurd h (by omega)
theorem fr_RX5 : ∀ j, j < 3 → defaultValue (tyX5 j) = vp_V [.null, .int 0, .int 0] j := fun j hj => match j, hj with
  | 0, _ => rfl
  | 1, _ => rfl
  | 2, _ => rfl
  | n + 3, h => absurd h (by omega)
theorem fr_RX6 : ∀ j, j < 12 → defaultValue (tyX6 j) = vp_V [.int 0, .null, .int 0, .int 0, .int 0, .null, .null, .int 0, .int 0, .int 0, .int 0, .int 0] j := fun j hj => match j, hj with
  | 0, _ => rfl
  | 1, _ => rfl
  | 2, _ => rfl
  | 3, _ => rfl
  | 4, _ => rfl
  | 5, _ => rfl
  | 6, _ => rfl
  | 7, _ => rfl
  | 8, _ => rfl
  | 9, _ => rfl
  | 10, _ => rfl
  | 11, _ => rfl
  | n + 12, h => absurd h (by omega)
theorem fr_RX8 : ∀ j, j < 2 → defaultValue (tyX8 j) = vp_V [.null, .int 0] j := fun j hj => match j, hj with
  | 0, _ => rfl
  | 1, _ => rfl
  | n + 2, h => absurd h (by omega)
theorem fr_RX9 : ∀ j, j < 11 → defaultValue (tyX9 j) = vp_V [.null, .null, .null, .int 0, .null, .null, .null, .null, .null, .int 0, .int 0] j := fun j hj => match j, hj with
  | 0, _ => rfl
  | 1, _ => rfl
  | 2, _ => rfl
  | 3, _ => rfl
  | 4, _ => rfl
  | 5, _ => rfl
  | 6, _ => rfl
  | 7, _ => rfl
  | 8, _ => rfl
  | 9, _ => rfl
  | 10, _ => rfl
  | n + 11, h => absurd h (by omega)
theorem fr_RX10 : ∀ j, j < 1 → defaultValue (tyX10 j) = vp_V [.int 0] j := fun j hj => match j, hj with
  | 0, _ => rfl
  | n + 1, h => absurd h (by omega)
theorem fr_RJ4 : ∀ j, j < 4 → defaultValue (tyJ4 j) = vp_V [.null, .int 0, .int 0, .int 0] j := fun j hj => match j, hj with
  | 0, _ => rfl
  | 1, _ => rfl
  | 2, _ => rfl
  | 3, _ => rfl
  | n + 4, h => absurd h (by omega)
theorem fr_RJ0 : ∀ j, j < 4 → defaultValue (tyJ0 j) = vp_V [.null, .int 0, .int 0, .int 0] j := fun j hj => match j, hj with
  | 0, _ => rfl
  | 1, _ => rfl
  | 2, _ => rfl
  | 3, _ => rfl
  | n + 4, h => absurd h (by omega)
theorem hd_X6_init : yX6_init.cls ≠ "java/lang/invoke/MethodHandle" ∧ yX6_init.cls ≠ "java/lang/invoke/VarHandle" ∧ (parseMethodDescriptor yX6_init.desc).map (fun d => d.parameters.length) = some 0 := ⟨by decide +kernel, by decide +kernel, by decide +kernel⟩
set_option maxHeartbeats 8000000 in
set_option maxRecDepth 100000 in
theorem cc_X6_init (l : Launch) (g : GG) (X : va_W) (sz a : Nat) : Met l yX6_init (.code yX6_init cX6_init 1 none :: LWg) (rmD 1 3 36) (va_Pc [.ref a] (PreC g ((a, .inr (8, [.int 0, .null, .int 0, .int 0, .int 0, .null, .null, .int 0, .int 0, .int 0, .int 0, .int 0])) :: X) sz)) (QC g X ((a, .inr (8, [.int 0, .null, .int 0, .int 0, .int 0, .null, .null, .int 0, .int 0, .int 0, .int 0, .int 0])) :: X) sz (fun u : Nat → Nat => u 0 = a) (fun u => blMo g u)) 3 36 (AA ((a, .inr (8, [.int 0, .null, .int 0, .int 0, .int 0, .null, .null, .int 0, .int 0, .int 0, .int 0, .int 0])) :: X) b00 0 sz) := by
  refine metC_go (by decide +kernel) rfl (Nat.le_of_ble_eq_true rfl) ?_
  intro p e s m below meth c ls H locs C0 hC hr hlocks hnm hsz hl hI
  subst hsz
  have hl : lv_has ls 1 [(0, .ref a)] := hl
  refine lv_aload_n C0.1 C0.2.1 dX6_init_0 rfl (lv_at hl 0 rfl) ?_
  refine n_obj C0 hl.1 w_126 dX6_init_1 ⟨Nat.le_of_ble_eq_true rfl, Nat.le_of_ble_eq_true rfl⟩ ?_
  refine lv_aload_n C0.1 C0.2.1 dX6_init_4 rfl (lv_at hl 0 rfl) ?_
  refine lv_bipush (v := 12) C0.1 C0.2.1 dX6_init_5 (by decide) ?_
  refine n_newi (N' := 12) C0 hC hI (by decide) rfl (by decide) (Nat.le_of_ble_eq_true rfl) (Nat.le_of_ble_eq_true rfl) dX6_init_7 (fun q1 H hI => ?_)
  have hI : KI g _ s ((q1, .inl (g.2.1 0, 12, .inl (fun _ => 0))) :: (a, .inr (8, [.int 0, .null, .int 0, .int 0, .int 0, .null, .null, .int 0, .int 0, .int 0, .int 0, .int 0])) :: X) H locs := hI
  refine n_putF (C := RX6) (T := TX6) (N := 12) (ci := 8) (ty := (.array .int)) C0 hC hI hnm iX6 tyX6 tyX6_ok nmX6 1 rfl rfl 1 (by decide) w_129 rfl rfl (by decide +kernel) rfl rfl (Nat.le_of_ble_eq_true rfl) dX6_init_9 (fun H locs hI => ?_)
  have hI : KI g _ s ((q1, .inl (g.2.1 0, 12, .inl (fun _ => 0))) :: (a, .inr (8, [.int 0, .ref q1, .int 0, .int 0, .int 0, .null, .null, .int 0, .int 0, .int 0, .int 0, .int 0])) :: X) H locs := hI
  refine lv_aload_n C0.1 C0.2.1 dX6_init_12 rfl (lv_at hl 0 rfl) ?_
  refine lv_bipush (v := 12) C0.1 C0.2.1 dX6_init_13 (by decide) ?_
  refine n_newi (N' := 12) C0 hC hI (by decide) rfl (by decide) (Nat.le_of_ble_eq_true rfl) (Nat.le_of_ble_eq_true rfl) dX6_init_15 (fun q2 H hI => ?_)
  have hI : KI g _ s ((q2, .inl (g.2.1 0, 12, .inl (fun _ => 0))) :: (q1, .inl (g.2.1 0, 12, .inl (fun _ => 0))) :: (a, .inr (8, [.int 0, .ref q1, .int 0, .int 0, .int 0, .null, .null, .int 0, .int 0, .int 0, .int 0, .int 0])) :: X) H locs := hI
  refine n_putF (C := RX6) (T := TX6) (N := 12) (ci := 8) (ty := (.array .int)) C0 hC hI hnm iX6 tyX6 tyX6_ok nmX6 2 rfl rfl 5 (by decide) w_141 rfl rfl (by decide +kernel) rfl rfl (Nat.le_of_ble_eq_true rfl) dX6_init_17 (fun H locs hI => ?_)
  have hI : KI g _ s ((q2, .inl (g.2.1 0, 12, .inl (fun _ => 0))) :: (q1, .inl (g.2.1 0, 12, .inl (fun _ => 0))) :: (a, .inr (8, [.int 0, .ref q1, .int 0, .int 0, .int 0, .ref q2, .null, .int 0, .int 0, .int 0, .int 0, .int 0])) :: X) H locs := hI
  refine lv_aload_n C0.1 C0.2.1 dX6_init_20 rfl (lv_at hl 0 rfl) ?_
  refine lv_bipush (v := 12) C0.1 C0.2.1 dX6_init_21 (by decide) ?_
  refine n_newi (N' := 12) C0 hC hI (by decide) rfl (by decide) (Nat.le_of_ble_eq_true rfl) (Nat.le_of_ble_eq_true rfl) dX6_init_23 (fun q3 H hI => ?_)
  have hI : KI g _ s ((q3, .inl (g.2.1 0, 12, .inl (fun _ => 0))) :: (q2, .inl (g.2.1 0, 12, .inl (fun _ => 0))) :: (q1, .inl (g.2.1 0, 12, .inl (fun _ => 0))) :: (a, .inr (8, [.int 0, .ref q1, .int 0, .int 0, .int 0, .ref q2, .null, .int 0, .int 0, .int 0, .int 0, .int 0])) :: X) H locs := hI
  refine n_putF (C := RX6) (T := TX6) (N := 12) (ci := 8) (ty := (.array .int)) C0 hC hI hnm iX6 tyX6 tyX6_ok nmX6 3 rfl rfl 6 (by decide) w_144 rfl rfl (by decide +kernel) rfl rfl (Nat.le_of_ble_eq_true rfl) dX6_init_25 (fun H locs hI => ?_)
  have hI : KI g _ s ((q3, .inl (g.2.1 0, 12, .inl (fun _ => 0))) :: (q2, .inl (g.2.1 0, 12, .inl (fun _ => 0))) :: (q1, .inl (g.2.1 0, 12, .inl (fun _ => 0))) :: (a, .inr (8, [.int 0, .ref q1, .int 0, .int 0, .int 0, .ref q2, .ref q3, .int 0, .int 0, .int 0, .int 0, .int 0])) :: X) H locs := hI
  exact n_end C0 hI hr hlocks (fun j => [a, q1, q2, q3].getD j 0) rfl rfl dX6_init_28

theorem hd_X2_init : yX2_init.cls ≠ "java/lang/invoke/MethodHandle" ∧ yX2_init.cls ≠ "java/lang/invoke/VarHandle" ∧ (parseMethodDescriptor yX2_init.desc).map (fun d => d.parameters.length) = some 0 := ⟨by decide +kernel, by decide +kernel, by decide +kernel⟩
set_option maxHeartbeats 8000000 in
set_option maxRecDepth 100000 in
theorem cc_X2_init (l : Launch) (g : GG) (X : va_W) (sz a : Nat) : Met l yX2_init (.code yX2_init cX2_init 2 none :: LWg) (rmD 2 30 348) (va_Pc [.ref a] (PreC g ((a, .inr (4, [.int 0, .null, .null, .null, .null, .int 0, .int 0, .null, .int 0, .null, .int 0, .int 0])) :: X) sz)) (QC g X ((a, .inr (4, [.int 0, .null, .null, .null, .null, .int 0, .int 0, .null, .int 0, .null, .int 0, .int 0])) :: X) sz (fun u : tyA => u.1 0 = a) (fun u => blA g u)) 30 348 (AA ((a, .inr (4, [.int 0, .null, .null, .null, .null, .int 0, .int 0, .null, .int 0, .null, .int 0, .int 0])) :: X) b00 0 sz) := by
  refine metC_go (by decide +kernel) rfl (Nat.le_of_ble_eq_true rfl) ?_
  intro p e s m below meth c ls H locs C0 hC hr hlocks hnm hsz hl hI
  subst hsz
  have hl : lv_has ls 2 [(0, .ref a)] := hl
  refine lv_aload_n C0.1 C0.2.1 dX2_init_0 rfl (lv_at hl 0 rfl) ?_
  refine n_obj C0 hl.1 w_119 dX2_init_1 ⟨Nat.le_of_ble_eq_true rfl, Nat.le_of_ble_eq_true rfl⟩ ?_
  refine lv_aload_n C0.1 C0.2.1 dX2_init_4 rfl (lv_at hl 0 rfl) ?_
  refine lv_bipush (v := 12) C0.1 C0.2.1 dX2_init_5 (by decide) ?_
  refine n_newi (N' := 12) C0 hC hI (by decide) rfl (by decide) (Nat.le_of_ble_eq_true rfl) (Nat.le_of_ble_eq_true rfl) dX2_init_7 (fun q1 H hI => ?_)
  have hI : KI g _ s ((q1, .inl (g.2.1 0, 12, .inl (fun _ => 0))) :: (a, .inr (4, [.int 0, .null, .null, .null, .null, .int 0, .int 0, .null, .int 0, .null, .int 0, .int 0])) :: X) H locs := hI
  refine n_putF (C := RX2) (T := TX2) (N := 12) (ci := 4) (ty := (.array .int)) C0 hC hI hnm iX2 tyX2 tyX2_ok nmX2 1 rfl rfl 1 (by decide) w_188 rfl rfl (by decide +kernel) rfl rfl (Nat.le_of_ble_eq_true rfl) dX2_init_9 (fun H locs hI => ?_)
  have hI : KI g _ s ((q1, .inl (g.2.1 0, 12, .inl (fun _ => 0))) :: (a, .inr (4, [.int 0, .ref q1, .null, .null, .null, .int 0, .int 0, .null, .int 0, .null, .int 0, .int 0])) :: X) H locs := hI
  refine lv_aload_n C0.1 C0.2.1 dX2_init_12 rfl (lv_at hl 0 rfl) ?_
  refine lv_bipush (v := 12) C0.1 C0.2.1 dX2_init_13 (by decide) ?_
  refine n_newi (N' := 12) C0 hC hI (by decide) rfl (by decide) (Nat.le_of_ble_eq_true rfl) (Nat.le_of_ble_eq_true rfl) dX2_init_15 (fun q2 H hI => ?_)
  have hI : KI g _ s ((q2, .inl (g.2.1 0, 12, .inl (fun _ => 0))) :: (q1, .inl (g.2.1 0, 12, .inl (fun _ => 0))) :: (a, .inr (4, [.int 0, .ref q1, .null, .null, .null, .int 0, .int 0, .null, .int 0, .null, .int 0, .int 0])) :: X) H locs := hI
  refine n_putF (C := RX2) (T := TX2) (N := 12) (ci := 4) (ty := (.array .int)) C0 hC hI hnm iX2 tyX2 tyX2_ok nmX2 2 rfl rfl 2 (by decide) w_190 rfl rfl (by decide +kernel) rfl rfl (Nat.le_of_ble_eq_true rfl) dX2_init_17 (fun H locs hI => ?_)
  have hI : KI g _ s ((q2, .inl (g.2.1 0, 12, .inl (fun _ => 0))) :: (q1, .inl (g.2.1 0, 12, .inl (fun _ => 0))) :: (a, .inr (4, [.int 0, .ref q1, .ref q2, .null, .null, .int 0, .int 0, .null, .int 0, .null, .int 0, .int 0])) :: X) H locs := hI
  refine lv_aload_n C0.1 C0.2.1 dX2_init_20 rfl (lv_at hl 0 rfl) ?_
  refine lv_bipush (v := 12) C0.1 C0.2.1 dX2_init_21 (by decide) ?_
  refine n_newi (N' := 12) C0 hC hI (by decide) rfl (by decide) (Nat.le_of_ble_eq_true rfl) (Nat.le_of_ble_eq_true rfl) dX2_init_23 (fun q3 H hI => ?_)
  have hI : KI g _ s ((q3, .inl (g.2.1 0, 12, .inl (fun _ => 0))) :: (q2, .inl (g.2.1 0, 12, .inl (fun _ => 0))) :: (q1, .inl (g.2.1 0, 12, .inl (fun _ => 0))) :: (a, .inr (4, [.int 0, .ref q1, .ref q2, .null, .null, .int 0, .int 0, .null, .int 0, .null, .int 0, .int 0])) :: X) H locs := hI
  refine n_putF (C := RX2) (T := TX2) (N := 12) (ci := 4) (ty := (.array .int)) C0 hC hI hnm iX2 tyX2 tyX2_ok nmX2 3 rfl rfl 3 (by decide) w_192 rfl rfl (by decide +kernel) rfl rfl (Nat.le_of_ble_eq_true rfl) dX2_init_25 (fun H locs hI => ?_)
  have hI : KI g _ s ((q3, .inl (g.2.1 0, 12, .inl (fun _ => 0))) :: (q2, .inl (g.2.1 0, 12, .inl (fun _ => 0))) :: (q1, .inl (g.2.1 0, 12, .inl (fun _ => 0))) :: (a, .inr (4, [.int 0, .ref q1, .ref q2, .ref q3, .null, .int 0, .int 0, .null, .int 0, .null, .int 0, .int 0])) :: X) H locs := hI
  refine lv_aload_n C0.1 C0.2.1 dX2_init_28 rfl (lv_at hl 0 rfl) ?_
  refine lv_bipush (v := 12) C0.1 C0.2.1 dX2_init_29 (by decide) ?_
  refine n_newi (N' := 12) C0 hC hI (by decide) rfl (by decide) (Nat.le_of_ble_eq_true rfl) (Nat.le_of_ble_eq_true rfl) dX2_init_31 (fun q4 H hI => ?_)
  have hI : KI g _ s ((q4, .inl (g.2.1 0, 12, .inl (fun _ => 0))) :: (q3, .inl (g.2.1 0, 12, .inl (fun _ => 0))) :: (q2, .inl (g.2.1 0, 12, .inl (fun _ => 0))) :: (q1, .inl (g.2.1 0, 12, .inl (fun _ => 0))) :: (a, .inr (4, [.int 0, .ref q1, .ref q2, .ref q3, .null, .int 0, .int 0, .null, .int 0, .null, .int 0, .int 0])) :: X) H locs := hI
  refine n_putF (C := RX2) (T := TX2) (N := 12) (ci := 4) (ty := (.array .int)) C0 hC hI hnm iX2 tyX2 tyX2_ok nmX2 4 rfl rfl 4 (by decide) w_194 rfl rfl (by decide +kernel) rfl rfl (Nat.le_of_ble_eq_true rfl) dX2_init_33 (fun H locs hI => ?_)
  have hI : KI g _ s ((q4, .inl (g.2.1 0, 12, .inl (fun _ => 0))) :: (q3, .inl (g.2.1 0, 12, .inl (fun _ => 0))) :: (q2, .inl (g.2.1 0, 12, .inl (fun _ => 0))) :: (q1, .inl (g.2.1 0, 12, .inl (fun _ => 0))) :: (a, .inr (4, [.int 0, .ref q1, .ref q2, .ref q3, .ref q4, .int 0, .int 0, .null, .int 0, .null, .int 0, .int 0])) :: X) H locs := hI
  refine lv_aload_n C0.1 C0.2.1 dX2_init_36 rfl (lv_at hl 0 rfl) ?_
  refine lv_bipush (v := 6) C0.1 C0.2.1 dX2_init_37 (by decide) ?_
  refine n_newi (N' := 6) C0 hC hI (by decide) rfl (by decide) (Nat.le_of_ble_eq_true rfl) (Nat.le_of_ble_eq_true rfl) dX2_init_39 (fun q5 H hI => ?_)
  have hI : KI g _ s ((q5, .inl (g.2.1 0, 6, .inl (fun _ => 0))) :: (q4, .inl (g.2.1 0, 12, .inl (fun _ => 0))) :: (q3, .inl (g.2.1 0, 12, .inl (fun _ => 0))) :: (q2, .inl (g.2.1 0, 12, .inl (fun _ => 0))) :: (q1, .inl (g.2.1 0, 12, .inl (fun _ => 0))) :: (a, .inr (4, [.int 0, .ref q1, .ref q2, .ref q3, .ref q4, .int 0, .int 0, .null, .int 0, .null, .int 0, .int 0])) :: X) H locs := hI
  refine n_putF (C := RX2) (T := TX2) (N := 12) (ci := 4) (ty := (.array .int)) C0 hC hI hnm iX2 tyX2 tyX2_ok nmX2 5 rfl rfl 7 (by decide) w_200 rfl rfl (by decide +kernel) rfl rfl (Nat.le_of_ble_eq_true rfl) dX2_init_41 (fun H locs hI => ?_)
  have hI : KI g _ s ((q5, .inl (g.2.1 0, 6, .inl (fun _ => 0))) :: (q4, .inl (g.2.1 0, 12, .inl (fun _ => 0))) :: (q3, .inl (g.2.1 0, 12, .inl (fun _ => 0))) :: (q2, .inl (g.2.1 0, 12, .inl (fun _ => 0))) :: (q1, .inl (g.2.1 0, 12, .inl (fun _ => 0))) :: (a, .inr (4, [.int 0, .ref q1, .ref q2, .ref q3, .ref q4, .int 0, .int 0, .ref q5, .int 0, .null, .int 0, .int 0])) :: X) H locs := hI
  refine lv_aload_n C0.1 C0.2.1 dX2_init_44 rfl (lv_at hl 0 rfl) ?_
  refine lv_bipush (v := 6) C0.1 C0.2.1 dX2_init_45 (by decide) ?_
  refine n_newq (N' := 6) C0 hC hI 0 rfl (t0 := 1) rfl w_120 (by decide) rfl (by decide) (Nat.le_of_ble_eq_true rfl) (Nat.le_of_ble_eq_true rfl) dX2_init_47 (fun q6 H hI => ?_)
  have hI : KI g _ s ((q6, .inl (g.2.1 1, 6, .inr (.inr (.inr (.inr (fun _ => none)))))) :: (q5, .inl (g.2.1 0, 6, .inl (fun _ => 0))) :: (q4, .inl (g.2.1 0, 12, .inl (fun _ => 0))) :: (q3, .inl (g.2.1 0, 12, .inl (fun _ => 0))) :: (q2, .inl (g.2.1 0, 12, .inl (fun _ => 0))) :: (q1, .inl (g.2.1 0, 12, .inl (fun _ => 0))) :: (a, .inr (4, [.int 0, .ref q1, .ref q2, .ref q3, .ref q4, .int 0, .int 0, .ref q5, .int 0, .null, .int 0, .int 0])) :: X) H locs := hI
  refine n_putF (C := RX2) (T := TX2) (N := 12) (ci := 4) (ty := (.array (.object "FrogParliament$Motion"))) C0 hC hI hnm iX2 tyX2 tyX2_ok nmX2 6 rfl rfl 9 (by decide) w_203 rfl rfl (by decide +kernel) rfl rfl (Nat.le_of_ble_eq_true rfl) dX2_init_50 (fun H locs hI => ?_)
  have hI : KI g _ s ((q6, .inl (g.2.1 1, 6, .inr (.inr (.inr (.inr (fun _ => none)))))) :: (q5, .inl (g.2.1 0, 6, .inl (fun _ => 0))) :: (q4, .inl (g.2.1 0, 12, .inl (fun _ => 0))) :: (q3, .inl (g.2.1 0, 12, .inl (fun _ => 0))) :: (q2, .inl (g.2.1 0, 12, .inl (fun _ => 0))) :: (q1, .inl (g.2.1 0, 12, .inl (fun _ => 0))) :: (a, .inr (4, [.int 0, .ref q1, .ref q2, .ref q3, .ref q4, .int 0, .int 0, .ref q5, .int 0, .ref q6, .int 0, .int 0])) :: X) H locs := hI
  refine lv_iconst (v := 0) C0.1 C0.2.1 dX2_init_53 (by decide) ?_
  refine lv_istore_n (lv' := [(1, .int 0), (0, .ref a)]) C0.1 C0.2.1 dX2_init_54 rfl hl (by decide) rfl (fun ls hl => ?_)
  refine lv_iload_n C0.1 C0.2.1 dX2_init_55 rfl (lv_at hl 0 rfl) ?_
  refine lv_bipush (v := 6) C0.1 C0.2.1 dX2_init_56 (by decide) ?_
  refine lv_icmp_ge (tgt := 80) C0.1 C0.2.1 dX2_init_58 (by decide) (fun z => absurd z (by decide)) (fun _ => ?_)
  refine lv_aload_n C0.1 C0.2.1 dX2_init_61 rfl (lv_at hl 1 rfl) ?_
  refine n_get (C := RX2) (T := TX2) (N := 12) (ci := 4) C0 hC hI iX2 6 rfl rfl 9 (by decide) rfl w_203 dX2_init_62 ?_
  refine lv_iload_n C0.1 C0.2.1 dX2_init_65 rfl (lv_at hl 0 rfl) ?_
  refine n_new (C := RX6) (T := TX6) (N := 12) (ci := 8) C0 hC hI iX6 tyX6 tyX6_ok w_120 w_122 w_73 rfl fr_RX6 (Nat.le_of_ble_eq_true rfl) (Nat.le_of_ble_eq_true rfl) dX2_init_66 (fun q7 H hI => ?_)
  have hI : KI g _ s ((q7, .inr (8, [.int 0, .null, .int 0, .int 0, .int 0, .null, .null, .int 0, .int 0, .int 0, .int 0, .int 0])) :: (q6, .inl (g.2.1 1, 6, .inr (.inr (.inr (.inr (fun _ => none)))))) :: (q5, .inl (g.2.1 0, 6, .inl (fun _ => 0))) :: (q4, .inl (g.2.1 0, 12, .inl (fun _ => 0))) :: (q3, .inl (g.2.1 0, 12, .inl (fun _ => 0))) :: (q2, .inl (g.2.1 0, 12, .inl (fun _ => 0))) :: (q1, .inl (g.2.1 0, 12, .inl (fun _ => 0))) :: (a, .inr (4, [.int 0, .ref q1, .ref q2, .ref q3, .ref q4, .int 0, .int 0, .ref q5, .int 0, .ref q6, .int 0, .int 0])) :: X) H locs := hI
  refine lv_dup C0.1 C0.2.1 dX2_init_69 rfl ?_
  refine n_call (hot := [(q6, .inl (g.2.1 1, 6, .inr (.inr (.inr (.inr (fun _ => none)))))), (q5, .inl (g.2.1 0, 6, .inl (fun _ => 0))), (q4, .inl (g.2.1 0, 12, .inl (fun _ => 0))), (q3, .inl (g.2.1 0, 12, .inl (fun _ => 0))), (q2, .inl (g.2.1 0, 12, .inl (fun _ => 0))), (q1, .inl (g.2.1 0, 12, .inl (fun _ => 0))), (a, .inr (4, [.int 0, .ref q1, .ref q2, .ref q3, .ref q4, .int 0, .int 0, .ref q5, .int 0, .ref q6, .int 0, .int 0]))]) (Rr := (X)) (e0 := (q7, .inr (8, [.int 0, .null, .int 0, .int 0, .int 0, .null, .null, .int 0, .int 0, .int 0, .int 0, .int 0]))) hC hI (n_IN (As := []) C0 hC hI (cc_X6_init l g ((q6, .inl (g.2.1 1, 6, .inr (.inr (.inr (.inr (fun _ => none)))))) :: (q5, .inl (g.2.1 0, 6, .inl (fun _ => 0))) :: (q4, .inl (g.2.1 0, 12, .inl (fun _ => 0))) :: (q3, .inl (g.2.1 0, 12, .inl (fun _ => 0))) :: (q2, .inl (g.2.1 0, 12, .inl (fun _ => 0))) :: (q1, .inl (g.2.1 0, 12, .inl (fun _ => 0))) :: (a, .inr (4, [.int 0, .ref q1, .ref q2, .ref q3, .ref q4, .int 0, .int 0, .ref q5, .int 0, .ref q6, .int 0, .int 0])) :: X) H.size q7) 1 rfl w_124 w_73 w_125 rfl ⟨rfl, rfl⟩ hd_X6_init ⟨Nat.le_of_ble_eq_true rfl, Nat.le_of_ble_eq_true rfl⟩ rfl hl.1 rfl (Nat.le_of_ble_eq_true rfl) dX2_init_70 ⟨Nat.le_of_ble_eq_true rfl, Nat.le_of_ble_eq_true rfl⟩) (fun u8 H locs hu9 hI => ?_)
  have hI : KI g _ s ((q6, .inl (g.2.1 1, 6, .inr (.inr (.inr (.inr (fun _ => none)))))) :: (q5, .inl (g.2.1 0, 6, .inl (fun _ => 0))) :: (q4, .inl (g.2.1 0, 12, .inl (fun _ => 0))) :: (q3, .inl (g.2.1 0, 12, .inl (fun _ => 0))) :: (q2, .inl (g.2.1 0, 12, .inl (fun _ => 0))) :: (q1, .inl (g.2.1 0, 12, .inl (fun _ => 0))) :: (a, .inr (4, [.int 0, .ref q1, .ref q2, .ref q3, .ref q4, .int 0, .int 0, .ref q5, .int 0, .ref q6, .int 0, .int 0])) :: (blMo g u8 ++ (X))) H locs := hI
  have hv9 : ((q6, .inl (g.2.1 1, 6, .inr (.inr (.inr (.inr (fun _ => none)))))) :: (q5, .inl (g.2.1 0, 6, .inl (fun _ => 0))) :: (q4, .inl (g.2.1 0, 12, .inl (fun _ => 0))) :: (q3, .inl (g.2.1 0, 12, .inl (fun _ => 0))) :: (q2, .inl (g.2.1 0, 12, .inl (fun _ => 0))) :: (q1, .inl (g.2.1 0, 12, .inl (fun _ => 0))) :: (a, .inr (4, [.int 0, .ref q1, .ref q2, .ref q3, .ref q4, .int 0, .int 0, .ref q5, .int 0, .ref q6, .int 0, .int 0])) :: (blMo g u8 ++ (X)))[10]? = some (q7, .inr (8, fMo u8 0 z0)) := by rw [← hu9]; rfl
  refine n_aast C0 hC hI 0 1 10 8 rfl rfl hv9 rfl (by decide) dX2_init_73 (fun H locs hI => ?_)
  rw [ixl_0] at hI
  have hI : KI g _ s ((q6, .inl (g.2.1 1, 6, .inr (.inr (.inr (.inr (va_up (fun _ => none) 0 (some q7))))))) :: (q5, .inl (g.2.1 0, 6, .inl (fun _ => 0))) :: (q4, .inl (g.2.1 0, 12, .inl (fun _ => 0))) :: (q3, .inl (g.2.1 0, 12, .inl (fun _ => 0))) :: (q2, .inl (g.2.1 0, 12, .inl (fun _ => 0))) :: (q1, .inl (g.2.1 0, 12, .inl (fun _ => 0))) :: (a, .inr (4, [.int 0, .ref q1, .ref q2, .ref q3, .ref q4, .int 0, .int 0, .ref q5, .int 0, .ref q6, .int 0, .int 0])) :: (blMo g u8 ++ (X))) H locs := hI
  refine lv_iinc (v := 1) (lv' := [(1, .int 1), (0, .ref a)]) C0.1 C0.2.1 dX2_init_74 hl (k := 0) rfl (by decide) (by decide) rfl (fun ls hl => ?_)
  refine lv_goto (tgt := 55) C0.1 C0.2.1 dX2_init_77 (by decide) ?_
  refine lv_iload_n C0.1 C0.2.1 dX2_init_55 rfl (lv_at hl 0 rfl) ?_
  refine lv_bipush (v := 6) C0.1 C0.2.1 dX2_init_56 (by decide) ?_
  refine lv_icmp_ge (tgt := 80) C0.1 C0.2.1 dX2_init_58 (by decide) (fun z => absurd z (by decide)) (fun _ => ?_)
  refine lv_aload_n C0.1 C0.2.1 dX2_init_61 rfl (lv_at hl 1 rfl) ?_
  refine n_get (C := RX2) (T := TX2) (N := 12) (ci := 4) C0 hC hI iX2 6 rfl rfl 9 (by decide) rfl w_203 dX2_init_62 ?_
  refine lv_iload_n C0.1 C0.2.1 dX2_init_65 rfl (lv_at hl 0 rfl) ?_
  refine n_new (C := RX6) (T := TX6) (N := 12) (ci := 8) C0 hC hI iX6 tyX6 tyX6_ok w_120 w_122 w_73 rfl fr_RX6 (Nat.le_of_ble_eq_true rfl) (Nat.le_of_ble_eq_true rfl) dX2_init_66 (fun q10 H hI => ?_)
  have hI : KI g _ s ((q10, .inr (8, [.int 0, .null, .int 0, .int 0, .int 0, .null, .null, .int 0, .int 0, .int 0, .int 0, .int 0])) :: (q6, .inl (g.2.1 1, 6, .inr (.inr (.inr (.inr (va_up (fun _ => none) 0 (some q7))))))) :: (q5, .inl (g.2.1 0, 6, .inl (fun _ => 0))) :: (q4, .inl (g.2.1 0, 12, .inl (fun _ => 0))) :: (q3, .inl (g.2.1 0, 12, .inl (fun _ => 0))) :: (q2, .inl (g.2.1 0, 12, .inl (fun _ => 0))) :: (q1, .inl (g.2.1 0, 12, .inl (fun _ => 0))) :: (a, .inr (4, [.int 0, .ref q1, .ref q2, .ref q3, .ref q4, .int 0, .int 0, .ref q5, .int 0, .ref q6, .int 0, .int 0])) :: (blMo g u8 ++ (X))) H locs := hI
  refine lv_dup C0.1 C0.2.1 dX2_init_69 rfl ?_
  refine n_call (hot := [(q6, .inl (g.2.1 1, 6, .inr (.inr (.inr (.inr (va_up (fun _ => none) 0 (some q7))))))), (q5, .inl (g.2.1 0, 6, .inl (fun _ => 0))), (q4, .inl (g.2.1 0, 12, .inl (fun _ => 0))), (q3, .inl (g.2.1 0, 12, .inl (fun _ => 0))), (q2, .inl (g.2.1 0, 12, .inl (fun _ => 0))), (q1, .inl (g.2.1 0, 12, .inl (fun _ => 0))), (a, .inr (4, [.int 0, .ref q1, .ref q2, .ref q3, .ref q4, .int 0, .int 0, .ref q5, .int 0, .ref q6, .int 0, .int 0]))]) (Rr := ((blMo g u8 ++ (X)))) (e0 := (q10, .inr (8, [.int 0, .null, .int 0, .int 0, .int 0, .null, .null, .int 0, .int 0, .int 0, .int 0, .int 0]))) hC hI (n_IN (As := []) C0 hC hI (cc_X6_init l g ((q6, .inl (g.2.1 1, 6, .inr (.inr (.inr (.inr (va_up (fun _ => none) 0 (some q7))))))) :: (q5, .inl (g.2.1 0, 6, .inl (fun _ => 0))) :: (q4, .inl (g.2.1 0, 12, .inl (fun _ => 0))) :: (q3, .inl (g.2.1 0, 12, .inl (fun _ => 0))) :: (q2, .inl (g.2.1 0, 12, .inl (fun _ => 0))) :: (q1, .inl (g.2.1 0, 12, .inl (fun _ => 0))) :: (a, .inr (4, [.int 0, .ref q1, .ref q2, .ref q3, .ref q4, .int 0, .int 0, .ref q5, .int 0, .ref q6, .int 0, .int 0])) :: (blMo g u8 ++ (X))) H.size q10) 1 rfl w_124 w_73 w_125 rfl ⟨rfl, rfl⟩ hd_X6_init ⟨Nat.le_of_ble_eq_true rfl, Nat.le_of_ble_eq_true rfl⟩ rfl hl.1 rfl (Nat.le_of_ble_eq_true rfl) dX2_init_70 ⟨Nat.le_of_ble_eq_true rfl, Nat.le_of_ble_eq_true rfl⟩) (fun u11 H locs hu12 hI => ?_)
  have hI : KI g _ s ((q6, .inl (g.2.1 1, 6, .inr (.inr (.inr (.inr (va_up (fun _ => none) 0 (some q7))))))) :: (q5, .inl (g.2.1 0, 6, .inl (fun _ => 0))) :: (q4, .inl (g.2.1 0, 12, .inl (fun _ => 0))) :: (q3, .inl (g.2.1 0, 12, .inl (fun _ => 0))) :: (q2, .inl (g.2.1 0, 12, .inl (fun _ => 0))) :: (q1, .inl (g.2.1 0, 12, .inl (fun _ => 0))) :: (a, .inr (4, [.int 0, .ref q1, .ref q2, .ref q3, .ref q4, .int 0, .int 0, .ref q5, .int 0, .ref q6, .int 0, .int 0])) :: (blMo g u11 ++ ((blMo g u8 ++ (X))))) H locs := hI
  have hv9 : ((q6, .inl (g.2.1 1, 6, .inr (.inr (.inr (.inr (va_up (fun _ => none) 0 (some q7))))))) :: (q5, .inl (g.2.1 0, 6, .inl (fun _ => 0))) :: (q4, .inl (g.2.1 0, 12, .inl (fun _ => 0))) :: (q3, .inl (g.2.1 0, 12, .inl (fun _ => 0))) :: (q2, .inl (g.2.1 0, 12, .inl (fun _ => 0))) :: (q1, .inl (g.2.1 0, 12, .inl (fun _ => 0))) :: (a, .inr (4, [.int 0, .ref q1, .ref q2, .ref q3, .ref q4, .int 0, .int 0, .ref q5, .int 0, .ref q6, .int 0, .int 0])) :: (blMo g u11 ++ ((blMo g u8 ++ (X)))))[10]? = some (q10, .inr (8, fMo u11 0 z0)) := by rw [← hu12]; rfl
  refine n_aast C0 hC hI 0 1 10 8 rfl rfl hv9 rfl (by decide) dX2_init_73 (fun H locs hI => ?_)
  rw [ixl_1] at hI
  have hI : KI g _ s ((q6, .inl (g.2.1 1, 6, .inr (.inr (.inr (.inr (va_up (va_up (fun _ => none) 0 (some q7)) 1 (some q10))))))) :: (q5, .inl (g.2.1 0, 6, .inl (fun _ => 0))) :: (q4, .inl (g.2.1 0, 12, .inl (fun _ => 0))) :: (q3, .inl (g.2.1 0, 12, .inl (fun _ => 0))) :: (q2, .inl (g.2.1 0, 12, .inl (fun _ => 0))) :: (q1, .inl (g.2.1 0, 12, .inl (fun _ => 0))) :: (a, .inr (4, [.int 0, .ref q1, .ref q2, .ref q3, .ref q4, .int 0, .int 0, .ref q5, .int 0, .ref q6, .int 0, .int 0])) :: (blMo g u11 ++ ((blMo g u8 ++ (X))))) H locs := hI
  refine lv_iinc (v := 2) (lv' := [(1, .int 2), (0, .ref a)]) C0.1 C0.2.1 dX2_init_74 hl (k := 0) rfl (by decide) (by decide) rfl (fun ls hl => ?_)
  refine lv_goto (tgt := 55) C0.1 C0.2.1 dX2_init_77 (by decide) ?_
  refine lv_iload_n C0.1 C0.2.1 dX2_init_55 rfl (lv_at hl 0 rfl) ?_
  refine lv_bipush (v := 6) C0.1 C0.2.1 dX2_init_56 (by decide) ?_
  refine lv_icmp_ge (tgt := 80) C0.1 C0.2.1 dX2_init_58 (by decide) (fun z => absurd z (by decide)) (fun _ => ?_)
  refine lv_aload_n C0.1 C0.2.1 dX2_init_61 rfl (lv_at hl 1 rfl) ?_
  refine n_get (C := RX2) (T := TX2) (N := 12) (ci := 4) C0 hC hI iX2 6 rfl rfl 9 (by decide) rfl w_203 dX2_init_62 ?_
  refine lv_iload_n C0.1 C0.2.1 dX2_init_65 rfl (lv_at hl 0 rfl) ?_
  refine n_new (C := RX6) (T := TX6) (N := 12) (ci := 8) C0 hC hI iX6 tyX6 tyX6_ok w_120 w_122 w_73 rfl fr_RX6 (Nat.le_of_ble_eq_true rfl) (Nat.le_of_ble_eq_true rfl) dX2_init_66 (fun q13 H hI => ?_)
  have hI : KI g _ s ((q13, .inr (8, [.int 0, .null, .int 0, .int 0, .int 0, .null, .null, .int 0, .int 0, .int 0, .int 0, .int 0])) :: (q6, .inl (g.2.1 1, 6, .inr (.inr (.inr (.inr (va_up (va_up (fun _ => none) 0 (some q7)) 1 (some q10))))))) :: (q5, .inl (g.2.1 0, 6, .inl (fun _ => 0))) :: (q4, .inl (g.2.1 0, 12, .inl (fun _ => 0))) :: (q3, .inl (g.2.1 0, 12, .inl (fun _ => 0))) :: (q2, .inl (g.2.1 0, 12, .inl (fun _ => 0))) :: (q1, .inl (g.2.1 0, 12, .inl (fun _ => 0))) :: (a, .inr (4, [.int 0, .ref q1, .ref q2, .ref q3, .ref q4, .int 0, .int 0, .ref q5, .int 0, .ref q6, .int 0, .int 0])) :: (blMo g u11 ++ ((blMo g u8 ++ (X))))) H locs := hI
  refine lv_dup C0.1 C0.2.1 dX2_init_69 rfl ?_
  refine n_call (hot := [(q6, .inl (g.2.1 1, 6, .inr (.inr (.inr (.inr (va_up (va_up (fun _ => none) 0 (some q7)) 1 (some q10))))))), (q5, .inl (g.2.1 0, 6, .inl (fun _ => 0))), (q4, .inl (g.2.1 0, 12, .inl (fun _ => 0))), (q3, .inl (g.2.1 0, 12, .inl (fun _ => 0))), (q2, .inl (g.2.1 0, 12, .inl (fun _ => 0))), (q1, .inl (g.2.1 0, 12, .inl (fun _ => 0))), (a, .inr (4, [.int 0, .ref q1, .ref q2, .ref q3, .ref q4, .int 0, .int 0, .ref q5, .int 0, .ref q6, .int 0, .int 0]))]) (Rr := ((blMo g u11 ++ ((blMo g u8 ++ (X)))))) (e0 := (q13, .inr (8, [.int 0, .null, .int 0, .int 0, .int 0, .null, .null, .int 0, .int 0, .int 0, .int 0, .int 0]))) hC hI (n_IN (As := []) C0 hC hI (cc_X6_init l g ((q6, .inl (g.2.1 1, 6, .inr (.inr (.inr (.inr (va_up (va_up (fun _ => none) 0 (some q7)) 1 (some q10))))))) :: (q5, .inl (g.2.1 0, 6, .inl (fun _ => 0))) :: (q4, .inl (g.2.1 0, 12, .inl (fun _ => 0))) :: (q3, .inl (g.2.1 0, 12, .inl (fun _ => 0))) :: (q2, .inl (g.2.1 0, 12, .inl (fun _ => 0))) :: (q1, .inl (g.2.1 0, 12, .inl (fun _ => 0))) :: (a, .inr (4, [.int 0, .ref q1, .ref q2, .ref q3, .ref q4, .int 0, .int 0, .ref q5, .int 0, .ref q6, .int 0, .int 0])) :: (blMo g u11 ++ ((blMo g u8 ++ (X))))) H.size q13) 1 rfl w_124 w_73 w_125 rfl ⟨rfl, rfl⟩ hd_X6_init ⟨Nat.le_of_ble_eq_true rfl, Nat.le_of_ble_eq_true rfl⟩ rfl hl.1 rfl (Nat.le_of_ble_eq_true rfl) dX2_init_70 ⟨Nat.le_of_ble_eq_true rfl, Nat.le_of_ble_eq_true rfl⟩) (fun u14 H locs hu15 hI => ?_)
  have hI : KI g _ s ((q6, .inl (g.2.1 1, 6, .inr (.inr (.inr (.inr (va_up (va_up (fun _ => none) 0 (some q7)) 1 (some q10))))))) :: (q5, .inl (g.2.1 0, 6, .inl (fun _ => 0))) :: (q4, .inl (g.2.1 0, 12, .inl (fun _ => 0))) :: (q3, .inl (g.2.1 0, 12, .inl (fun _ => 0))) :: (q2, .inl (g.2.1 0, 12, .inl (fun _ => 0))) :: (q1, .inl (g.2.1 0, 12, .inl (fun _ => 0))) :: (a, .inr (4, [.int 0, .ref q1, .ref q2, .ref q3, .ref q4, .int 0, .int 0, .ref q5, .int 0, .ref q6, .int 0, .int 0])) :: (blMo g u14 ++ ((blMo g u11 ++ ((blMo g u8 ++ (X))))))) H locs := hI
  have hv9 : ((q6, .inl (g.2.1 1, 6, .inr (.inr (.inr (.inr (va_up (va_up (fun _ => none) 0 (some q7)) 1 (some q10))))))) :: (q5, .inl (g.2.1 0, 6, .inl (fun _ => 0))) :: (q4, .inl (g.2.1 0, 12, .inl (fun _ => 0))) :: (q3, .inl (g.2.1 0, 12, .inl (fun _ => 0))) :: (q2, .inl (g.2.1 0, 12, .inl (fun _ => 0))) :: (q1, .inl (g.2.1 0, 12, .inl (fun _ => 0))) :: (a, .inr (4, [.int 0, .ref q1, .ref q2, .ref q3, .ref q4, .int 0, .int 0, .ref q5, .int 0, .ref q6, .int 0, .int 0])) :: (blMo g u14 ++ ((blMo g u11 ++ ((blMo g u8 ++ (X)))))))[10]? = some (q13, .inr (8, fMo u14 0 z0)) := by rw [← hu15]; rfl
  refine n_aast C0 hC hI 0 1 10 8 rfl rfl hv9 rfl (by decide) dX2_init_73 (fun H locs hI => ?_)
  rw [ixl_2] at hI
  have hI : KI g _ s ((q6, .inl (g.2.1 1, 6, .inr (.inr (.inr (.inr (va_up (va_up (va_up (fun _ => none) 0 (some q7)) 1 (some q10)) 2 (some q13))))))) :: (q5, .inl (g.2.1 0, 6, .inl (fun _ => 0))) :: (q4, .inl (g.2.1 0, 12, .inl (fun _ => 0))) :: (q3, .inl (g.2.1 0, 12, .inl (fun _ => 0))) :: (q2, .inl (g.2.1 0, 12, .inl (fun _ => 0))) :: (q1, .inl (g.2.1 0, 12, .inl (fun _ => 0))) :: (a, .inr (4, [.int 0, .ref q1, .ref q2, .ref q3, .ref q4, .int 0, .int 0, .ref q5, .int 0, .ref q6, .int 0, .int 0])) :: (blMo g u14 ++ ((blMo g u11 ++ ((blMo g u8 ++ (X))))))) H locs := hI
  refine lv_iinc (v := 3) (lv' := [(1, .int 3), (0, .ref a)]) C0.1 C0.2.1 dX2_init_74 hl (k := 0) rfl (by decide) (by decide) rfl (fun ls hl => ?_)
  refine lv_goto (tgt := 55) C0.1 C0.2.1 dX2_init_77 (by decide) ?_
  refine lv_iload_n C0.1 C0.2.1 dX2_init_55 rfl (lv_at hl 0 rfl) ?_
  refine lv_bipush (v := 6) C0.1 C0.2.1 dX2_init_56 (by decide) ?_
  refine lv_icmp_ge (tgt := 80) C0.1 C0.2.1 dX2_init_58 (by decide) (fun z => absurd z (by decide)) (fun _ => ?_)
  refine lv_aload_n C0.1 C0.2.1 dX2_init_61 rfl (lv_at hl 1 rfl) ?_
  refine n_get (C := RX2) (T := TX2) (N := 12) (ci := 4) C0 hC hI iX2 6 rfl rfl 9 (by decide) rfl w_203 dX2_init_62 ?_
  refine lv_iload_n C0.1 C0.2.1 dX2_init_65 rfl (lv_at hl 0 rfl) ?_
  refine n_new (C := RX6) (T := TX6) (N := 12) (ci := 8) C0 hC hI iX6 tyX6 tyX6_ok w_120 w_122 w_73 rfl fr_RX6 (Nat.le_of_ble_eq_true rfl) (Nat.le_of_ble_eq_true rfl) dX2_init_66 (fun q16 H hI => ?_)
  have hI : KI g _ s ((q16, .inr (8, [.int 0, .null, .int 0, .int 0, .int 0, .null, .null, .int 0, .int 0, .int 0, .int 0, .int 0])) :: (q6, .inl (g.2.1 1, 6, .inr (.inr (.inr (.inr (va_up (va_up (va_up (fun _ => none) 0 (some q7)) 1 (some q10)) 2 (some q13))))))) :: (q5, .inl (g.2.1 0, 6, .inl (fun _ => 0))) :: (q4, .inl (g.2.1 0, 12, .inl (fun _ => 0))) :: (q3, .inl (g.2.1 0, 12, .inl (fun _ => 0))) :: (q2, .inl (g.2.1 0, 12, .inl (fun _ => 0))) :: (q1, .inl (g.2.1 0, 12, .inl (fun _ => 0))) :: (a, .inr (4, [.int 0, .ref q1, .ref q2, .ref q3, .ref q4, .int 0, .int 0, .ref q5, .int 0, .ref q6, .int 0, .int 0])) :: (blMo g u14 ++ ((blMo g u11 ++ ((blMo g u8 ++ (X))))))) H locs := hI
  refine lv_dup C0.1 C0.2.1 dX2_init_69 rfl ?_
  refine n_call (hot := [(q6, .inl (g.2.1 1, 6, .inr (.inr (.inr (.inr (va_up (va_up (va_up (fun _ => none) 0 (some q7)) 1 (some q10)) 2 (some q13))))))), (q5, .inl (g.2.1 0, 6, .inl (fun _ => 0))), (q4, .inl (g.2.1 0, 12, .inl (fun _ => 0))), (q3, .inl (g.2.1 0, 12, .inl (fun _ => 0))), (q2, .inl (g.2.1 0, 12, .inl (fun _ => 0))), (q1, .inl (g.2.1 0, 12, .inl (fun _ => 0))), (a, .inr (4, [.int 0, .ref q1, .ref q2, .ref q3, .ref q4, .int 0, .int 0, .ref q5, .int 0, .ref q6, .int 0, .int 0]))]) (Rr := ((blMo g u14 ++ ((blMo g u11 ++ ((blMo g u8 ++ (X)))))))) (e0 := (q16, .inr (8, [.int 0, .null, .int 0, .int 0, .int 0, .null, .null, .int 0, .int 0, .int 0, .int 0, .int 0]))) hC hI (n_IN (As := []) C0 hC hI (cc_X6_init l g ((q6, .inl (g.2.1 1, 6, .inr (.inr (.inr (.inr (va_up (va_up (va_up (fun _ => none) 0 (some q7)) 1 (some q10)) 2 (some q13))))))) :: (q5, .inl (g.2.1 0, 6, .inl (fun _ => 0))) :: (q4, .inl (g.2.1 0, 12, .inl (fun _ => 0))) :: (q3, .inl (g.2.1 0, 12, .inl (fun _ => 0))) :: (q2, .inl (g.2.1 0, 12, .inl (fun _ => 0))) :: (q1, .inl (g.2.1 0, 12, .inl (fun _ => 0))) :: (a, .inr (4, [.int 0, .ref q1, .ref q2, .ref q3, .ref q4, .int 0, .int 0, .ref q5, .int 0, .ref q6, .int 0, .int 0])) :: (blMo g u14 ++ ((blMo g u11 ++ ((blMo g u8 ++ (X))))))) H.size q16) 1 rfl w_124 w_73 w_125 rfl ⟨rfl, rfl⟩ hd_X6_init ⟨Nat.le_of_ble_eq_true rfl, Nat.le_of_ble_eq_true rfl⟩ rfl hl.1 rfl (Nat.le_of_ble_eq_true rfl) dX2_init_70 ⟨Nat.le_of_ble_eq_true rfl, Nat.le_of_ble_eq_true rfl⟩) (fun u17 H locs hu18 hI => ?_)
  have hI : KI g _ s ((q6, .inl (g.2.1 1, 6, .inr (.inr (.inr (.inr (va_up (va_up (va_up (fun _ => none) 0 (some q7)) 1 (some q10)) 2 (some q13))))))) :: (q5, .inl (g.2.1 0, 6, .inl (fun _ => 0))) :: (q4, .inl (g.2.1 0, 12, .inl (fun _ => 0))) :: (q3, .inl (g.2.1 0, 12, .inl (fun _ => 0))) :: (q2, .inl (g.2.1 0, 12, .inl (fun _ => 0))) :: (q1, .inl (g.2.1 0, 12, .inl (fun _ => 0))) :: (a, .inr (4, [.int 0, .ref q1, .ref q2, .ref q3, .ref q4, .int 0, .int 0, .ref q5, .int 0, .ref q6, .int 0, .int 0])) :: (blMo g u17 ++ ((blMo g u14 ++ ((blMo g u11 ++ ((blMo g u8 ++ (X))))))))) H locs := hI
  have hv9 : ((q6, .inl (g.2.1 1, 6, .inr (.inr (.inr (.inr (va_up (va_up (va_up (fun _ => none) 0 (some q7)) 1 (some q10)) 2 (some q13))))))) :: (q5, .inl (g.2.1 0, 6, .inl (fun _ => 0))) :: (q4, .inl (g.2.1 0, 12, .inl (fun _ => 0))) :: (q3, .inl (g.2.1 0, 12, .inl (fun _ => 0))) :: (q2, .inl (g.2.1 0, 12, .inl (fun _ => 0))) :: (q1, .inl (g.2.1 0, 12, .inl (fun _ => 0))) :: (a, .inr (4, [.int 0, .ref q1, .ref q2, .ref q3, .ref q4, .int 0, .int 0, .ref q5, .int 0, .ref q6, .int 0, .int 0])) :: (blMo g u17 ++ ((blMo g u14 ++ ((blMo g u11 ++ ((blMo g u8 ++ (X)))))))))[10]? = some (q16, .inr (8, fMo u17 0 z0)) := by rw [← hu18]; rfl
  refine n_aast C0 hC hI 0 1 10 8 rfl rfl hv9 rfl (by decide) dX2_init_73 (fun H locs hI => ?_)
  rw [ixl_3] at hI
  have hI : KI g _ s ((q6, .inl (g.2.1 1, 6, .inr (.inr (.inr (.inr (va_up (va_up (va_up (va_up (fun _ => none) 0 (some q7)) 1 (some q10)) 2 (some q13)) 3 (some q16))))))) :: (q5, .inl (g.2.1 0, 6, .inl (fun _ => 0))) :: (q4, .inl (g.2.1 0, 12, .inl (fun _ => 0))) :: (q3, .inl (g.2.1 0, 12, .inl (fun _ => 0))) :: (q2, .inl (g.2.1 0, 12, .inl (fun _ => 0))) :: (q1, .inl (g.2.1 0, 12, .inl (fun _ => 0))) :: (a, .inr (4, [.int 0, .ref q1, .ref q2, .ref q3, .ref q4, .int 0, .int 0, .ref q5, .int 0, .ref q6, .int 0, .int 0])) :: (blMo g u17 ++ ((blMo g u14 ++ ((blMo g u11 ++ ((blMo g u8 ++ (X))))))))) H locs := hI
  refine lv_iinc (v := 4) (lv' := [(1, .int 4), (0, .ref a)]) C0.1 C0.2.1 dX2_init_74 hl (k := 0) rfl (by decide) (by decide) rfl (fun ls hl => ?_)
  refine lv_goto (tgt := 55) C0.1 C0.2.1 dX2_init_77 (by decide) ?_
  refine lv_iload_n C0.1 C0.2.1 dX2_init_55 rfl (lv_at hl 0 rfl) ?_
  refine lv_bipush (v := 6) C0.1 C0.2.1 dX2_init_56 (by decide) ?_
  refine lv_icmp_ge (tgt := 80) C0.1 C0.2.1 dX2_init_58 (by decide) (fun z => absurd z (by decide)) (fun _ => ?_)
  refine lv_aload_n C0.1 C0.2.1 dX2_init_61 rfl (lv_at hl 1 rfl) ?_
  refine n_get (C := RX2) (T := TX2) (N := 12) (ci := 4) C0 hC hI iX2 6 rfl rfl 9 (by decide) rfl w_203 dX2_init_62 ?_
  refine lv_iload_n C0.1 C0.2.1 dX2_init_65 rfl (lv_at hl 0 rfl) ?_
  refine n_new (C := RX6) (T := TX6) (N := 12) (ci := 8) C0 hC hI iX6 tyX6 tyX6_ok w_120 w_122 w_73 rfl fr_RX6 (Nat.le_of_ble_eq_true rfl) (Nat.le_of_ble_eq_true rfl) dX2_init_66 (fun q19 H hI => ?_)
  have hI : KI g _ s ((q19, .inr (8, [.int 0, .null, .int 0, .int 0, .int 0, .null, .null, .int 0, .int 0, .int 0, .int 0, .int 0])) :: (q6, .inl (g.2.1 1, 6, .inr (.inr (.inr (.inr (va_up (va_up (va_up (va_up (fun _ => none) 0 (some q7)) 1 (some q10)) 2 (some q13)) 3 (some q16))))))) :: (q5, .inl (g.2.1 0, 6, .inl (fun _ => 0))) :: (q4, .inl (g.2.1 0, 12, .inl (fun _ => 0))) :: (q3, .inl (g.2.1 0, 12, .inl (fun _ => 0))) :: (q2, .inl (g.2.1 0, 12, .inl (fun _ => 0))) :: (q1, .inl (g.2.1 0, 12, .inl (fun _ => 0))) :: (a, .inr (4, [.int 0, .ref q1, .ref q2, .ref q3, .ref q4, .int 0, .int 0, .ref q5, .int 0, .ref q6, .int 0, .int 0])) :: (blMo g u17 ++ ((blMo g u14 ++ ((blMo g u11 ++ ((blMo g u8 ++ (X))))))))) H locs := hI
  refine lv_dup C0.1 C0.2.1 dX2_init_69 rfl ?_
  refine n_call (hot := [(q6, .inl (g.2.1 1, 6, .inr (.inr (.inr (.inr (va_up (va_up (va_up (va_up (fun _ => none) 0 (some q7)) 1 (some q10)) 2 (some q13)) 3 (some q16))))))), (q5, .inl (g.2.1 0, 6, .inl (fun _ => 0))), (q4, .inl (g.2.1 0, 12, .inl (fun _ => 0))), (q3, .inl (g.2.1 0, 12, .inl (fun _ => 0))), (q2, .inl (g.2.1 0, 12, .inl (fun _ => 0))), (q1, .inl (g.2.1 0, 12, .inl (fun _ => 0))), (a, .inr (4, [.int 0, .ref q1, .ref q2, .ref q3, .ref q4, .int 0, .int 0, .ref q5, .int 0, .ref q6, .int 0, .int 0]))]) (Rr := ((blMo g u17 ++ ((blMo g u14 ++ ((blMo g u11 ++ ((blMo g u8 ++ (X)))))))))) (e0 := (q19, .inr (8, [.int 0, .null, .int 0, .int 0, .int 0, .null, .null, .int 0, .int 0, .int 0, .int 0, .int 0]))) hC hI (n_IN (As := []) C0 hC hI (cc_X6_init l g ((q6, .inl (g.2.1 1, 6, .inr (.inr (.inr (.inr (va_up (va_up (va_up (va_up (fun _ => none) 0 (some q7)) 1 (some q10)) 2 (some q13)) 3 (some q16))))))) :: (q5, .inl (g.2.1 0, 6, .inl (fun _ => 0))) :: (q4, .inl (g.2.1 0, 12, .inl (fun _ => 0))) :: (q3, .inl (g.2.1 0, 12, .inl (fun _ => 0))) :: (q2, .inl (g.2.1 0, 12, .inl (fun _ => 0))) :: (q1, .inl (g.2.1 0, 12, .inl (fun _ => 0))) :: (a, .inr (4, [.int 0, .ref q1, .ref q2, .ref q3, .ref q4, .int 0, .int 0, .ref q5, .int 0, .ref q6, .int 0, .int 0])) :: (blMo g u17 ++ ((blMo g u14 ++ ((blMo g u11 ++ ((blMo g u8 ++ (X))))))))) H.size q19) 1 rfl w_124 w_73 w_125 rfl ⟨rfl, rfl⟩ hd_X6_init ⟨Nat.le_of_ble_eq_true rfl, Nat.le_of_ble_eq_true rfl⟩ rfl hl.1 rfl (Nat.le_of_ble_eq_true rfl) dX2_init_70 ⟨Nat.le_of_ble_eq_true rfl, Nat.le_of_ble_eq_true rfl⟩) (fun u20 H locs hu21 hI => ?_)
  have hI : KI g _ s ((q6, .inl (g.2.1 1, 6, .inr (.inr (.inr (.inr (va_up (va_up (va_up (va_up (fun _ => none) 0 (some q7)) 1 (some q10)) 2 (some q13)) 3 (some q16))))))) :: (q5, .inl (g.2.1 0, 6, .inl (fun _ => 0))) :: (q4, .inl (g.2.1 0, 12, .inl (fun _ => 0))) :: (q3, .inl (g.2.1 0, 12, .inl (fun _ => 0))) :: (q2, .inl (g.2.1 0, 12, .inl (fun _ => 0))) :: (q1, .inl (g.2.1 0, 12, .inl (fun _ => 0))) :: (a, .inr (4, [.int 0, .ref q1, .ref q2, .ref q3, .ref q4, .int 0, .int 0, .ref q5, .int 0, .ref q6, .int 0, .int 0])) :: (blMo g u20 ++ ((blMo g u17 ++ ((blMo g u14 ++ ((blMo g u11 ++ ((blMo g u8 ++ (X))))))))))) H locs := hI
  have hv9 : ((q6, .inl (g.2.1 1, 6, .inr (.inr (.inr (.inr (va_up (va_up (va_up (va_up (fun _ => none) 0 (some q7)) 1 (some q10)) 2 (some q13)) 3 (some q16))))))) :: (q5, .inl (g.2.1 0, 6, .inl (fun _ => 0))) :: (q4, .inl (g.2.1 0, 12, .inl (fun _ => 0))) :: (q3, .inl (g.2.1 0, 12, .inl (fun _ => 0))) :: (q2, .inl (g.2.1 0, 12, .inl (fun _ => 0))) :: (q1, .inl (g.2.1 0, 12, .inl (fun _ => 0))) :: (a, .inr (4, [.int 0, .ref q1, .ref q2, .ref q3, .ref q4, .int 0, .int 0, .ref q5, .int 0, .ref q6, .int 0, .int 0])) :: (blMo g u20 ++ ((blMo g u17 ++ ((blMo g u14 ++ ((blMo g u11 ++ ((blMo g u8 ++ (X)))))))))))[10]? = some (q19, .inr (8, fMo u20 0 z0)) := by rw [← hu21]; rfl
  refine n_aast C0 hC hI 0 1 10 8 rfl rfl hv9 rfl (by decide) dX2_init_73 (fun H locs hI => ?_)
  rw [ixl_4] at hI
  have hI : KI g _ s ((q6, .inl (g.2.1 1, 6, .inr (.inr (.inr (.inr (va_up (va_up (va_up (va_up (va_up (fun _ => none) 0 (some q7)) 1 (some q10)) 2 (some q13)) 3 (some q16)) 4 (some q19))))))) :: (q5, .inl (g.2.1 0, 6, .inl (fun _ => 0))) :: (q4, .inl (g.2.1 0, 12, .inl (fun _ => 0))) :: (q3, .inl (g.2.1 0, 12, .inl (fun _ => 0))) :: (q2, .inl (g.2.1 0, 12, .inl (fun _ => 0))) :: (q1, .inl (g.2.1 0, 12, .inl (fun _ => 0))) :: (a, .inr (4, [.int 0, .ref q1, .ref q2, .ref q3, .ref q4, .int 0, .int 0, .ref q5, .int 0, .ref q6, .int 0, .int 0])) :: (blMo g u20 ++ ((blMo g u17 ++ ((blMo g u14 ++ ((blMo g u11 ++ ((blMo g u8 ++ (X))))))))))) H locs := hI
  refine lv_iinc (v := 5) (lv' := [(1, .int 5), (0, .ref a)]) C0.1 C0.2.1 dX2_init_74 hl (k := 0) rfl (by decide) (by decide) rfl (fun ls hl => ?_)
  refine lv_goto (tgt := 55) C0.1 C0.2.1 dX2_init_77 (by decide) ?_
  refine lv_iload_n C0.1 C0.2.1 dX2_init_55 rfl (lv_at hl 0 rfl) ?_
  refine lv_bipush (v := 6) C0.1 C0.2.1 dX2_init_56 (by decide) ?_
  refine lv_icmp_ge (tgt := 80) C0.1 C0.2.1 dX2_init_58 (by decide) (fun z => absurd z (by decide)) (fun _ => ?_)
  refine lv_aload_n C0.1 C0.2.1 dX2_init_61 rfl (lv_at hl 1 rfl) ?_
  refine n_get (C := RX2) (T := TX2) (N := 12) (ci := 4) C0 hC hI iX2 6 rfl rfl 9 (by decide) rfl w_203 dX2_init_62 ?_
  refine lv_iload_n C0.1 C0.2.1 dX2_init_65 rfl (lv_at hl 0 rfl) ?_
  refine n_new (C := RX6) (T := TX6) (N := 12) (ci := 8) C0 hC hI iX6 tyX6 tyX6_ok w_120 w_122 w_73 rfl fr_RX6 (Nat.le_of_ble_eq_true rfl) (Nat.le_of_ble_eq_true rfl) dX2_init_66 (fun q22 H hI => ?_)
  have hI : KI g _ s ((q22, .inr (8, [.int 0, .null, .int 0, .int 0, .int 0, .null, .null, .int 0, .int 0, .int 0, .int 0, .int 0])) :: (q6, .inl (g.2.1 1, 6, .inr (.inr (.inr (.inr (va_up (va_up (va_up (va_up (va_up (fun _ => none) 0 (some q7)) 1 (some q10)) 2 (some q13)) 3 (some q16)) 4 (some q19))))))) :: (q5, .inl (g.2.1 0, 6, .inl (fun _ => 0))) :: (q4, .inl (g.2.1 0, 12, .inl (fun _ => 0))) :: (q3, .inl (g.2.1 0, 12, .inl (fun _ => 0))) :: (q2, .inl (g.2.1 0, 12, .inl (fun _ => 0))) :: (q1, .inl (g.2.1 0, 12, .inl (fun _ => 0))) :: (a, .inr (4, [.int 0, .ref q1, .ref q2, .ref q3, .ref q4, .int 0, .int 0, .ref q5, .int 0, .ref q6, .int 0, .int 0])) :: (blMo g u20 ++ ((blMo g u17 ++ ((blMo g u14 ++ ((blMo g u11 ++ ((blMo g u8 ++ (X))))))))))) H locs := hI
  refine lv_dup C0.1 C0.2.1 dX2_init_69 rfl ?_
  refine n_call (hot := [(q6, .inl (g.2.1 1, 6, .inr (.inr (.inr (.inr (va_up (va_up (va_up (va_up (va_up (fun _ => none) 0 (some q7)) 1 (some q10)) 2 (some q13)) 3 (some q16)) 4 (some q19))))))), (q5, .inl (g.2.1 0, 6, .inl (fun _ => 0))), (q4, .inl (g.2.1 0, 12, .inl (fun _ => 0))), (q3, .inl (g.2.1 0, 12, .inl (fun _ => 0))), (q2, .inl (g.2.1 0, 12, .inl (fun _ => 0))), (q1, .inl (g.2.1 0, 12, .inl (fun _ => 0))), (a, .inr (4, [.int 0, .ref q1, .ref q2, .ref q3, .ref q4, .int 0, .int 0, .ref q5, .int 0, .ref q6, .int 0, .int 0]))]) (Rr := ((blMo g u20 ++ ((blMo g u17 ++ ((blMo g u14 ++ ((blMo g u11 ++ ((blMo g u8 ++ (X)))))))))))) (e0 := (q22, .inr (8, [.int 0, .null, .int 0, .int 0, .int 0, .null, .null, .int 0, .int 0, .int 0, .int 0, .int 0]))) hC hI (n_IN (As := []) C0 hC hI (cc_X6_init l g ((q6, .inl (g.2.1 1, 6, .inr (.inr (.inr (.inr (va_up (va_up (va_up (va_up (va_up (fun _ => none) 0 (some q7)) 1 (some q10)) 2 (some q13)) 3 (some q16)) 4 (some q19))))))) :: (q5, .inl (g.2.1 0, 6, .inl (fun _ => 0))) :: (q4, .inl (g.2.1 0, 12, .inl (fun _ => 0))) :: (q3, .inl (g.2.1 0, 12, .inl (fun _ => 0))) :: (q2, .inl (g.2.1 0, 12, .inl (fun _ => 0))) :: (q1, .inl (g.2.1 0, 12, .inl (fun _ => 0))) :: (a, .inr (4, [.int 0, .ref q1, .ref q2, .ref q3, .ref q4, .int 0, .int 0, .ref q5, .int 0, .ref q6, .int 0, .int 0])) :: (blMo g u20 ++ ((blMo g u17 ++ ((blMo g u14 ++ ((blMo g u11 ++ ((blMo g u8 ++ (X))))))))))) H.size q22) 1 rfl w_124 w_73 w_125 rfl ⟨rfl, rfl⟩ hd_X6_init ⟨Nat.le_of_ble_eq_true rfl, Nat.le_of_ble_eq_true rfl⟩ rfl hl.1 rfl (Nat.le_of_ble_eq_true rfl) dX2_init_70 ⟨Nat.le_of_ble_eq_true rfl, Nat.le_of_ble_eq_true rfl⟩) (fun u23 H locs hu24 hI => ?_)
  have hI : KI g _ s ((q6, .inl (g.2.1 1, 6, .inr (.inr (.inr (.inr (va_up (va_up (va_up (va_up (va_up (fun _ => none) 0 (some q7)) 1 (some q10)) 2 (some q13)) 3 (some q16)) 4 (some q19))))))) :: (q5, .inl (g.2.1 0, 6, .inl (fun _ => 0))) :: (q4, .inl (g.2.1 0, 12, .inl (fun _ => 0))) :: (q3, .inl (g.2.1 0, 12, .inl (fun _ => 0))) :: (q2, .inl (g.2.1 0, 12, .inl (fun _ => 0))) :: (q1, .inl (g.2.1 0, 12, .inl (fun _ => 0))) :: (a, .inr (4, [.int 0, .ref q1, .ref q2, .ref q3, .ref q4, .int 0, .int 0, .ref q5, .int 0, .ref q6, .int 0, .int 0])) :: (blMo g u23 ++ ((blMo g u20 ++ ((blMo g u17 ++ ((blMo g u14 ++ ((blMo g u11 ++ ((blMo g u8 ++ (X))))))))))))) H locs := hI
  have hv9 : ((q6, .inl (g.2.1 1, 6, .inr (.inr (.inr (.inr (va_up (va_up (va_up (va_up (va_up (fun _ => none) 0 (some q7)) 1 (some q10)) 2 (some q13)) 3 (some q16)) 4 (some q19))))))) :: (q5, .inl (g.2.1 0, 6, .inl (fun _ => 0))) :: (q4, .inl (g.2.1 0, 12, .inl (fun _ => 0))) :: (q3, .inl (g.2.1 0, 12, .inl (fun _ => 0))) :: (q2, .inl (g.2.1 0, 12, .inl (fun _ => 0))) :: (q1, .inl (g.2.1 0, 12, .inl (fun _ => 0))) :: (a, .inr (4, [.int 0, .ref q1, .ref q2, .ref q3, .ref q4, .int 0, .int 0, .ref q5, .int 0, .ref q6, .int 0, .int 0])) :: (blMo g u23 ++ ((blMo g u20 ++ ((blMo g u17 ++ ((blMo g u14 ++ ((blMo g u11 ++ ((blMo g u8 ++ (X)))))))))))))[10]? = some (q22, .inr (8, fMo u23 0 z0)) := by rw [← hu24]; rfl
  refine n_aast C0 hC hI 0 1 10 8 rfl rfl hv9 rfl (by decide) dX2_init_73 (fun H locs hI => ?_)
  rw [ixl_5] at hI
  have hI : KI g _ s ((q6, .inl (g.2.1 1, 6, .inr (.inr (.inr (.inr (va_up (va_up (va_up (va_up (va_up (va_up (fun _ => none) 0 (some q7)) 1 (some q10)) 2 (some q13)) 3 (some q16)) 4 (some q19)) 5 (some q22))))))) :: (q5, .inl (g.2.1 0, 6, .inl (fun _ => 0))) :: (q4, .inl (g.2.1 0, 12, .inl (fun _ => 0))) :: (q3, .inl (g.2.1 0, 12, .inl (fun _ => 0))) :: (q2, .inl (g.2.1 0, 12, .inl (fun _ => 0))) :: (q1, .inl (g.2.1 0, 12, .inl (fun _ => 0))) :: (a, .inr (4, [.int 0, .ref q1, .ref q2, .ref q3, .ref q4, .int 0, .int 0, .ref q5, .int 0, .ref q6, .int 0, .int 0])) :: (blMo g u23 ++ ((blMo g u20 ++ ((blMo g u17 ++ ((blMo g u14 ++ ((blMo g u11 ++ ((blMo g u8 ++ (X))))))))))))) H locs := hI
  refine lv_iinc (v := 6) (lv' := [(1, .int 6), (0, .ref a)]) C0.1 C0.2.1 dX2_init_74 hl (k := 0) rfl (by decide) (by decide) rfl (fun ls hl => ?_)
  refine lv_goto (tgt := 55) C0.1 C0.2.1 dX2_init_77 (by decide) ?_
  refine lv_iload_n C0.1 C0.2.1 dX2_init_55 rfl (lv_at hl 0 rfl) ?_
  refine lv_bipush (v := 6) C0.1 C0.2.1 dX2_init_56 (by decide) ?_
  refine lv_icmp_ge (tgt := 80) C0.1 C0.2.1 dX2_init_58 (by decide) (fun _ => ?_) (fun z => absurd (by decide) z)
  subst hu9
  subst hu12
  subst hu15
  subst hu18
  subst hu21
  subst hu24
  exact n_end C0 hI hr hlocks ((fun j => [a, q1, q2, q3, q4, q5, q6].getD j 0), fun i => [u8, u11, u14, u17, u20, u23].getD i (fun _ => 0)) rfl (by simp only [blA, List.append_assoc, List.cons_append, List.nil_append]; rfl) dX2_init_80

theorem hd_X5_init : yX5_init.cls ≠ "java/lang/invoke/MethodHandle" ∧ yX5_init.cls ≠ "java/lang/invoke/VarHandle" ∧ (parseMethodDescriptor yX5_init.desc).map (fun d => d.parameters.length) = some 0 := ⟨by decide +kernel, by decide +kernel, by decide +kernel⟩
set_option maxHeartbeats 8000000 in
set_option maxRecDepth 100000 in
theorem cc_X5_init (l : Launch) (g : GG) (X : va_W) (sz a : Nat) : Met l yX5_init (.code yX5_init cX5_init 2 none :: LWg) (rmD 3 249 2888) (va_Pc [.ref a] (PreC g ((a, .inr (7, [.null, .int 0, .int 0])) :: X) sz)) (QC g X ((a, .inr (7, [.null, .int 0, .int 0])) :: X) sz (fun u : tyH => u.1 0 = a) (fun u => blH g u)) 249 2888 (AA ((a, .inr (7, [.null, .int 0, .int 0])) :: X) b00 0 sz) := by
  refine metC_go (by decide +kernel) rfl (Nat.le_of_ble_eq_true rfl) ?_
  intro p e s m below meth c ls H locs C0 hC hr hlocks hnm hsz hl hI
  subst hsz
  have hl : lv_has ls 2 [(0, .ref a)] := hl
  refine lv_aload_n C0.1 C0.2.1 dX5_init_0 rfl (lv_at hl 0 rfl) ?_
  refine n_obj C0 hl.1 w_239 dX5_init_1 ⟨Nat.le_of_ble_eq_true rfl, Nat.le_of_ble_eq_true rfl⟩ ?_
  refine lv_aload_n C0.1 C0.2.1 dX5_init_4 rfl (lv_at hl 0 rfl) ?_
  refine lv_bipush (v := 8) C0.1 C0.2.1 dX5_init_5 (by decide) ?_
  refine n_newq (N' := 8) C0 hC hI 1 rfl (t0 := 2) rfl w_240 (by decide) rfl (by decide) (Nat.le_of_ble_eq_true rfl) (Nat.le_of_ble_eq_true rfl) dX5_init_7 (fun q1 H hI => ?_)
  have hI : KI g _ s ((q1, .inl (g.2.1 2, 8, .inr (.inr (.inr (.inr (fun _ => none)))))) :: (a, .inr (7, [.null, .int 0, .int 0])) :: X) H locs := hI
  refine n_putF (C := RX5) (T := TX5) (N := 3) (ci := 7) (ty := (.array (.object "FrogParliament$Assembly"))) C0 hC hI hnm iX5 tyX5 tyX5_ok nmX5 1 rfl rfl 0 (by decide) w_243 rfl rfl (by decide +kernel) rfl rfl (Nat.le_of_ble_eq_true rfl) dX5_init_10 (fun H locs hI => ?_)
  have hI : KI g _ s ((q1, .inl (g.2.1 2, 8, .inr (.inr (.inr (.inr (fun _ => none)))))) :: (a, .inr (7, [.ref q1, .int 0, .int 0])) :: X) H locs := hI
  refine lv_iconst (v := 0) C0.1 C0.2.1 dX5_init_13 (by decide) ?_
  refine lv_istore_n (lv' := [(1, .int 0), (0, .ref a)]) C0.1 C0.2.1 dX5_init_14 rfl hl (by decide) rfl (fun ls hl => ?_)
  refine lv_iload_n C0.1 C0.2.1 dX5_init_15 rfl (lv_at hl 0 rfl) ?_
  refine lv_bipush (v := 8) C0.1 C0.2.1 dX5_init_16 (by decide) ?_
  refine lv_icmp_ge (tgt := 40) C0.1 C0.2.1 dX5_init_18 (by decide) (fun z => absurd z (by decide)) (fun _ => ?_)
  refine lv_aload_n C0.1 C0.2.1 dX5_init_21 rfl (lv_at hl 1 rfl) ?_
  refine n_get (C := RX5) (T := TX5) (N := 3) (ci := 7) C0 hC hI iX5 1 rfl rfl 0 (by decide) rfl w_243 dX5_init_22 ?_
  refine lv_iload_n C0.1 C0.2.1 dX5_init_25 rfl (lv_at hl 0 rfl) ?_
  refine n_new (C := RX2) (T := TX2) (N := 12) (ci := 4) C0 hC hI iX2 tyX2 tyX2_ok w_240 w_115 w_72 rfl fr_RX2 (Nat.le_of_ble_eq_true rfl) (Nat.le_of_ble_eq_true rfl) dX5_init_26 (fun q2 H hI => ?_)
  have hI : KI g _ s ((q2, .inr (4, [.int 0, .null, .null, .null, .null, .int 0, .int 0, .null, .int 0, .null, .int 0, .int 0])) :: (q1, .inl (g.2.1 2, 8, .inr (.inr (.inr (.inr (fun _ => none)))))) :: (a, .inr (7, [.ref q1, .int 0, .int 0])) :: X) H locs := hI
  refine lv_dup C0.1 C0.2.1 dX5_init_29 rfl ?_
  refine n_call (hot := [(q1, .inl (g.2.1 2, 8, .inr (.inr (.inr (.inr (fun _ => none)))))), (a, .inr (7, [.ref q1, .int 0, .int 0]))]) (Rr := (X)) (e0 := (q2, .inr (4, [.int 0, .null, .null, .null, .null, .int 0, .int 0, .null, .int 0, .null, .int 0, .int 0]))) hC hI (n_IN (As := []) C0 hC hI (cc_X2_init l g ((q1, .inl (g.2.1 2, 8, .inr (.inr (.inr (.inr (fun _ => none)))))) :: (a, .inr (7, [.ref q1, .int 0, .int 0])) :: X) H.size q2) 3 rfl w_117 w_72 w_118 rfl ⟨rfl, rfl⟩ hd_X2_init ⟨Nat.le_of_ble_eq_true rfl, Nat.le_of_ble_eq_true rfl⟩ rfl hl.1 rfl (Nat.le_of_ble_eq_true rfl) dX5_init_30 ⟨Nat.le_of_ble_eq_true rfl, Nat.le_of_ble_eq_true rfl⟩) (fun u3 H locs hu4 hI => ?_)
  have hI : KI g _ s ((q1, .inl (g.2.1 2, 8, .inr (.inr (.inr (.inr (fun _ => none)))))) :: (a, .inr (7, [.ref q1, .int 0, .int 0])) :: (blA g u3 ++ (X))) H locs := hI
  have hv9 : ((q1, .inl (g.2.1 2, 8, .inr (.inr (.inr (.inr (fun _ => none)))))) :: (a, .inr (7, [.ref q1, .int 0, .int 0])) :: (blA g u3 ++ (X)))[8]? = some (q2, .inr (4, fA u3.1 0 z0)) := by rw [← hu4]; rfl
  refine n_aast C0 hC hI 0 2 8 4 rfl rfl hv9 rfl (by decide) dX5_init_33 (fun H locs hI => ?_)
  rw [ixl_0] at hI
  have hI : KI g _ s ((q1, .inl (g.2.1 2, 8, .inr (.inr (.inr (.inr (va_up (fun _ => none) 0 (some q2))))))) :: (a, .inr (7, [.ref q1, .int 0, .int 0])) :: (blA g u3 ++ (X))) H locs := hI
  refine lv_iinc (v := 1) (lv' := [(1, .int 1), (0, .ref a)]) C0.1 C0.2.1 dX5_init_34 hl (k := 0) rfl (by decide) (by decide) rfl (fun ls hl => ?_)
  refine lv_goto (tgt := 15) C0.1 C0.2.1 dX5_init_37 (by decide) ?_
  refine lv_iload_n C0.1 C0.2.1 dX5_init_15 rfl (lv_at hl 0 rfl) ?_
  refine lv_bipush (v := 8) C0.1 C0.2.1 dX5_init_16 (by decide) ?_
  refine lv_icmp_ge (tgt := 40) C0.1 C0.2.1 dX5_init_18 (by decide) (fun z => absurd z (by decide)) (fun _ => ?_)
  refine lv_aload_n C0.1 C0.2.1 dX5_init_21 rfl (lv_at hl 1 rfl) ?_
  refine n_get (C := RX5) (T := TX5) (N := 3) (ci := 7) C0 hC hI iX5 1 rfl rfl 0 (by decide) rfl w_243 dX5_init_22 ?_
  refine lv_iload_n C0.1 C0.2.1 dX5_init_25 rfl (lv_at hl 0 rfl) ?_
  refine n_new (C := RX2) (T := TX2) (N := 12) (ci := 4) C0 hC hI iX2 tyX2 tyX2_ok w_240 w_115 w_72 rfl fr_RX2 (Nat.le_of_ble_eq_true rfl) (Nat.le_of_ble_eq_true rfl) dX5_init_26 (fun q5 H hI => ?_)
  have hI : KI g _ s ((q5, .inr (4, [.int 0, .null, .null, .null, .null, .int 0, .int 0, .null, .int 0, .null, .int 0, .int 0])) :: (q1, .inl (g.2.1 2, 8, .inr (.inr (.inr (.inr (va_up (fun _ => none) 0 (some q2))))))) :: (a, .inr (7, [.ref q1, .int 0, .int 0])) :: (blA g u3 ++ (X))) H locs := hI
  refine lv_dup C0.1 C0.2.1 dX5_init_29 rfl ?_
  refine n_call (hot := [(q1, .inl (g.2.1 2, 8, .inr (.inr (.inr (.inr (va_up (fun _ => none) 0 (some q2))))))), (a, .inr (7, [.ref q1, .int 0, .int 0]))]) (Rr := ((blA g u3 ++ (X)))) (e0 := (q5, .inr (4, [.int 0, .null, .null, .null, .null, .int 0, .int 0, .null, .int 0, .null, .int 0, .int 0]))) hC hI (n_IN (As := []) C0 hC hI (cc_X2_init l g ((q1, .inl (g.2.1 2, 8, .inr (.inr (.inr (.inr (va_up (fun _ => none) 0 (some q2))))))) :: (a, .inr (7, [.ref q1, .int 0, .int 0])) :: (blA g u3 ++ (X))) H.size q5) 3 rfl w_117 w_72 w_118 rfl ⟨rfl, rfl⟩ hd_X2_init ⟨Nat.le_of_ble_eq_true rfl, Nat.le_of_ble_eq_true rfl⟩ rfl hl.1 rfl (Nat.le_of_ble_eq_true rfl) dX5_init_30 ⟨Nat.le_of_ble_eq_true rfl, Nat.le_of_ble_eq_true rfl⟩) (fun u6 H locs hu7 hI => ?_)
  have hI : KI g _ s ((q1, .inl (g.2.1 2, 8, .inr (.inr (.inr (.inr (va_up (fun _ => none) 0 (some q2))))))) :: (a, .inr (7, [.ref q1, .int 0, .int 0])) :: (blA g u6 ++ ((blA g u3 ++ (X))))) H locs := hI
  have hv9 : ((q1, .inl (g.2.1 2, 8, .inr (.inr (.inr (.inr (va_up (fun _ => none) 0 (some q2))))))) :: (a, .inr (7, [.ref q1, .int 0, .int 0])) :: (blA g u6 ++ ((blA g u3 ++ (X)))))[8]? = some (q5, .inr (4, fA u6.1 0 z0)) := by rw [← hu7]; rfl
  refine n_aast C0 hC hI 0 2 8 4 rfl rfl hv9 rfl (by decide) dX5_init_33 (fun H locs hI => ?_)
  rw [ixl_1] at hI
  have hI : KI g _ s ((q1, .inl (g.2.1 2, 8, .inr (.inr (.inr (.inr (va_up (va_up (fun _ => none) 0 (some q2)) 1 (some q5))))))) :: (a, .inr (7, [.ref q1, .int 0, .int 0])) :: (blA g u6 ++ ((blA g u3 ++ (X))))) H locs := hI
  refine lv_iinc (v := 2) (lv' := [(1, .int 2), (0, .ref a)]) C0.1 C0.2.1 dX5_init_34 hl (k := 0) rfl (by decide) (by decide) rfl (fun ls hl => ?_)
  refine lv_goto (tgt := 15) C0.1 C0.2.1 dX5_init_37 (by decide) ?_
  refine lv_iload_n C0.1 C0.2.1 dX5_init_15 rfl (lv_at hl 0 rfl) ?_
  refine lv_bipush (v := 8) C0.1 C0.2.1 dX5_init_16 (by decide) ?_
  refine lv_icmp_ge (tgt := 40) C0.1 C0.2.1 dX5_init_18 (by decide) (fun z => absurd z (by decide)) (fun _ => ?_)
  refine lv_aload_n C0.1 C0.2.1 dX5_init_21 rfl (lv_at hl 1 rfl) ?_
  refine n_get (C := RX5) (T := TX5) (N := 3) (ci := 7) C0 hC hI iX5 1 rfl rfl 0 (by decide) rfl w_243 dX5_init_22 ?_
  refine lv_iload_n C0.1 C0.2.1 dX5_init_25 rfl (lv_at hl 0 rfl) ?_
  refine n_new (C := RX2) (T := TX2) (N := 12) (ci := 4) C0 hC hI iX2 tyX2 tyX2_ok w_240 w_115 w_72 rfl fr_RX2 (Nat.le_of_ble_eq_true rfl) (Nat.le_of_ble_eq_true rfl) dX5_init_26 (fun q8 H hI => ?_)
  have hI : KI g _ s ((q8, .inr (4, [.int 0, .null, .null, .null, .null, .int 0, .int 0, .null, .int 0, .null, .int 0, .int 0])) :: (q1, .inl (g.2.1 2, 8, .inr (.inr (.inr (.inr (va_up (va_up (fun _ => none) 0 (some q2)) 1 (some q5))))))) :: (a, .inr (7, [.ref q1, .int 0, .int 0])) :: (blA g u6 ++ ((blA g u3 ++ (X))))) H locs := hI
  refine lv_dup C0.1 C0.2.1 dX5_init_29 rfl ?_
  refine n_call (hot := [(q1, .inl (g.2.1 2, 8, .inr (.inr (.inr (.inr (va_up (va_up (fun _ => none) 0 (some q2)) 1 (some q5))))))), (a, .inr (7, [.ref q1, .int 0, .int 0]))]) (Rr := ((blA g u6 ++ ((blA g u3 ++ (X)))))) (e0 := (q8, .inr (4, [.int 0, .null, .null, .null, .null, .int 0, .int 0, .null, .int 0, .null, .int 0, .int 0]))) hC hI (n_IN (As := []) C0 hC hI (cc_X2_init l g ((q1, .inl (g.2.1 2, 8, .inr (.inr (.inr (.inr (va_up (va_up (fun _ => none) 0 (some q2)) 1 (some q5))))))) :: (a, .inr (7, [.ref q1, .int 0, .int 0])) :: (blA g u6 ++ ((blA g u3 ++ (X))))) H.size q8) 3 rfl w_117 w_72 w_118 rfl ⟨rfl, rfl⟩ hd_X2_init ⟨Nat.le_of_ble_eq_true rfl, Nat.le_of_ble_eq_true rfl⟩ rfl hl.1 rfl (Nat.le_of_ble_eq_true rfl) dX5_init_30 ⟨Nat.le_of_ble_eq_true rfl, Nat.le_of_ble_eq_true rfl⟩) (fun u9 H locs hu10 hI => ?_)
  have hI : KI g _ s ((q1, .inl (g.2.1 2, 8, .inr (.inr (.inr (.inr (va_up (va_up (fun _ => none) 0 (some q2)) 1 (some q5))))))) :: (a, .inr (7, [.ref q1, .int 0, .int 0])) :: (blA g u9 ++ ((blA g u6 ++ ((blA g u3 ++ (X))))))) H locs := hI
  have hv9 : ((q1, .inl (g.2.1 2, 8, .inr (.inr (.inr (.inr (va_up (va_up (fun _ => none) 0 (some q2)) 1 (some q5))))))) :: (a, .inr (7, [.ref q1, .int 0, .int 0])) :: (blA g u9 ++ ((blA g u6 ++ ((blA g u3 ++ (X)))))))[8]? = some (q8, .inr (4, fA u9.1 0 z0)) := by rw [← hu10]; rfl
  refine n_aast C0 hC hI 0 2 8 4 rfl rfl hv9 rfl (by decide) dX5_init_33 (fun H locs hI => ?_)
  rw [ixl_2] at hI
  have hI : KI g _ s ((q1, .inl (g.2.1 2, 8, .inr (.inr (.inr (.inr (va_up (va_up (va_up (fun _ => none) 0 (some q2)) 1 (some q5)) 2 (some q8))))))) :: (a, .inr (7, [.ref q1, .int 0, .int 0])) :: (blA g u9 ++ ((blA g u6 ++ ((blA g u3 ++ (X))))))) H locs := hI
  refine lv_iinc (v := 3) (lv' := [(1, .int 3), (0, .ref a)]) C0.1 C0.2.1 dX5_init_34 hl (k := 0) rfl (by decide) (by decide) rfl (fun ls hl => ?_)
  refine lv_goto (tgt := 15) C0.1 C0.2.1 dX5_init_37 (by decide) ?_
  refine lv_iload_n C0.1 C0.2.1 dX5_init_15 rfl (lv_at hl 0 rfl) ?_
  refine lv_bipush (v := 8) C0.1 C0.2.1 dX5_init_16 (by decide) ?_
  refine lv_icmp_ge (tgt := 40) C0.1 C0.2.1 dX5_init_18 (by decide) (fun z => absurd z (by decide)) (fun _ => ?_)
  refine lv_aload_n C0.1 C0.2.1 dX5_init_21 rfl (lv_at hl 1 rfl) ?_
  refine n_get (C := RX5) (T := TX5) (N := 3) (ci := 7) C0 hC hI iX5 1 rfl rfl 0 (by decide) rfl w_243 dX5_init_22 ?_
  refine lv_iload_n C0.1 C0.2.1 dX5_init_25 rfl (lv_at hl 0 rfl) ?_
  refine n_new (C := RX2) (T := TX2) (N := 12) (ci := 4) C0 hC hI iX2 tyX2 tyX2_ok w_240 w_115 w_72 rfl fr_RX2 (Nat.le_of_ble_eq_true rfl) (Nat.le_of_ble_eq_true rfl) dX5_init_26 (fun q11 H hI => ?_)
  have hI : KI g _ s ((q11, .inr (4, [.int 0, .null, .null, .null, .null, .int 0, .int 0, .null, .int 0, .null, .int 0, .int 0])) :: (q1, .inl (g.2.1 2, 8, .inr (.inr (.inr (.inr (va_up (va_up (va_up (fun _ => none) 0 (some q2)) 1 (some q5)) 2 (some q8))))))) :: (a, .inr (7, [.ref q1, .int 0, .int 0])) :: (blA g u9 ++ ((blA g u6 ++ ((blA g u3 ++ (X))))))) H locs := hI
  refine lv_dup C0.1 C0.2.1 dX5_init_29 rfl ?_
  refine n_call (hot := [(q1, .inl (g.2.1 2, 8, .inr (.inr (.inr (.inr (va_up (va_up (va_up (fun _ => none) 0 (some q2)) 1 (some q5)) 2 (some q8))))))), (a, .inr (7, [.ref q1, .int 0, .int 0]))]) (Rr := ((blA g u9 ++ ((blA g u6 ++ ((blA g u3 ++ (X)))))))) (e0 := (q11, .inr (4, [.int 0, .null, .null, .null, .null, .int 0, .int 0, .null, .int 0, .null, .int 0, .int 0]))) hC hI (n_IN (As := []) C0 hC hI (cc_X2_init l g ((q1, .inl (g.2.1 2, 8, .inr (.inr (.inr (.inr (va_up (va_up (va_up (fun _ => none) 0 (some q2)) 1 (some q5)) 2 (some q8))))))) :: (a, .inr (7, [.ref q1, .int 0, .int 0])) :: (blA g u9 ++ ((blA g u6 ++ ((blA g u3 ++ (X))))))) H.size q11) 3 rfl w_117 w_72 w_118 rfl ⟨rfl, rfl⟩ hd_X2_init ⟨Nat.le_of_ble_eq_true rfl, Nat.le_of_ble_eq_true rfl⟩ rfl hl.1 rfl (Nat.le_of_ble_eq_true rfl) dX5_init_30 ⟨Nat.le_of_ble_eq_true rfl, Nat.le_of_ble_eq_true rfl⟩) (fun u12 H locs hu13 hI => ?_)
  have hI : KI g _ s ((q1, .inl (g.2.1 2, 8, .inr (.inr (.inr (.inr (va_up (va_up (va_up (fun _ => none) 0 (some q2)) 1 (some q5)) 2 (some q8))))))) :: (a, .inr (7, [.ref q1, .int 0, .int 0])) :: (blA g u12 ++ ((blA g u9 ++ ((blA g u6 ++ ((blA g u3 ++ (X))))))))) H locs := hI
  have hv9 : ((q1, .inl (g.2.1 2, 8, .inr (.inr (.inr (.inr (va_up (va_up (va_up (fun _ => none) 0 (some q2)) 1 (some q5)) 2 (some q8))))))) :: (a, .inr (7, [.ref q1, .int 0, .int 0])) :: (blA g u12 ++ ((blA g u9 ++ ((blA g u6 ++ ((blA g u3 ++ (X)))))))))[8]? = some (q11, .inr (4, fA u12.1 0 z0)) := by rw [← hu13]; rfl
  refine n_aast C0 hC hI 0 2 8 4 rfl rfl hv9 rfl (by decide) dX5_init_33 (fun H locs hI => ?_)
  rw [ixl_3] at hI
  have hI : KI g _ s ((q1, .inl (g.2.1 2, 8, .inr (.inr (.inr (.inr (va_up (va_up (va_up (va_up (fun _ => none) 0 (some q2)) 1 (some q5)) 2 (some q8)) 3 (some q11))))))) :: (a, .inr (7, [.ref q1, .int 0, .int 0])) :: (blA g u12 ++ ((blA g u9 ++ ((blA g u6 ++ ((blA g u3 ++ (X))))))))) H locs := hI
  refine lv_iinc (v := 4) (lv' := [(1, .int 4), (0, .ref a)]) C0.1 C0.2.1 dX5_init_34 hl (k := 0) rfl (by decide) (by decide) rfl (fun ls hl => ?_)
  refine lv_goto (tgt := 15) C0.1 C0.2.1 dX5_init_37 (by decide) ?_
  refine lv_iload_n C0.1 C0.2.1 dX5_init_15 rfl (lv_at hl 0 rfl) ?_
  refine lv_bipush (v := 8) C0.1 C0.2.1 dX5_init_16 (by decide) ?_
  refine lv_icmp_ge (tgt := 40) C0.1 C0.2.1 dX5_init_18 (by decide) (fun z => absurd z (by decide)) (fun _ => ?_)
  refine lv_aload_n C0.1 C0.2.1 dX5_init_21 rfl (lv_at hl 1 rfl) ?_
  refine n_get (C := RX5) (T := TX5) (N := 3) (ci := 7) C0 hC hI iX5 1 rfl rfl 0 (by decide) rfl w_243 dX5_init_22 ?_
  refine lv_iload_n C0.1 C0.2.1 dX5_init_25 rfl (lv_at hl 0 rfl) ?_
  refine n_new (C := RX2) (T := TX2) (N := 12) (ci := 4) C0 hC hI iX2 tyX2 tyX2_ok w_240 w_115 w_72 rfl fr_RX2 (Nat.le_of_ble_eq_true rfl) (Nat.le_of_ble_eq_true rfl) dX5_init_26 (fun q14 H hI => ?_)
  have hI : KI g _ s ((q14, .inr (4, [.int 0, .null, .null, .null, .null, .int 0, .int 0, .null, .int 0, .null, .int 0, .int 0])) :: (q1, .inl (g.2.1 2, 8, .inr (.inr (.inr (.inr (va_up (va_up (va_up (va_up (fun _ => none) 0 (some q2)) 1 (some q5)) 2 (some q8)) 3 (some q11))))))) :: (a, .inr (7, [.ref q1, .int 0, .int 0])) :: (blA g u12 ++ ((blA g u9 ++ ((blA g u6 ++ ((blA g u3 ++ (X))))))))) H locs := hI
  refine lv_dup C0.1 C0.2.1 dX5_init_29 rfl ?_
  refine n_call (hot := [(q1, .inl (g.2.1 2, 8, .inr (.inr (.inr (.inr (va_up (va_up (va_up (va_up (fun _ => none) 0 (some q2)) 1 (some q5)) 2 (some q8)) 3 (some q11))))))), (a, .inr (7, [.ref q1, .int 0, .int 0]))]) (Rr := ((blA g u12 ++ ((blA g u9 ++ ((blA g u6 ++ ((blA g u3 ++ (X)))))))))) (e0 := (q14, .inr (4, [.int 0, .null, .null, .null, .null, .int 0, .int 0, .null, .int 0, .null, .int 0, .int 0]))) hC hI (n_IN (As := []) C0 hC hI (cc_X2_init l g ((q1, .inl (g.2.1 2, 8, .inr (.inr (.inr (.inr (va_up (va_up (va_up (va_up (fun _ => none) 0 (some q2)) 1 (some q5)) 2 (some q8)) 3 (some q11))))))) :: (a, .inr (7, [.ref q1, .int 0, .int 0])) :: (blA g u12 ++ ((blA g u9 ++ ((blA g u6 ++ ((blA g u3 ++ (X))))))))) H.size q14) 3 rfl w_117 w_72 w_118 rfl ⟨rfl, rfl⟩ hd_X2_init ⟨Nat.le_of_ble_eq_true rfl, Nat.le_of_ble_eq_true rfl⟩ rfl hl.1 rfl (Nat.le_of_ble_eq_true rfl) dX5_init_30 ⟨Nat.le_of_ble_eq_true rfl, Nat.le_of_ble_eq_true rfl⟩) (fun u15 H locs hu16 hI => ?_)
  have hI : KI g _ s ((q1, .inl (g.2.1 2, 8, .inr (.inr (.inr (.inr (va_up (va_up (va_up (va_up (fun _ => none) 0 (some q2)) 1 (some q5)) 2 (some q8)) 3 (some q11))))))) :: (a, .inr (7, [.ref q1, .int 0, .int 0])) :: (blA g u15 ++ ((blA g u12 ++ ((blA g u9 ++ ((blA g u6 ++ ((blA g u3 ++ (X))))))))))) H locs := hI
  have hv9 : ((q1, .inl (g.2.1 2, 8, .inr (.inr (.inr (.inr (va_up (va_up (va_up (va_up (fun _ => none) 0 (some q2)) 1 (some q5)) 2 (some q8)) 3 (some q11))))))) :: (a, .inr (7, [.ref q1, .int 0, .int 0])) :: (blA g u15 ++ ((blA g u12 ++ ((blA g u9 ++ ((blA g u6 ++ ((blA g u3 ++ (X)))))))))))[8]? = some (q14, .inr (4, fA u15.1 0 z0)) := by rw [← hu16]; rfl
  refine n_aast C0 hC hI 0 2 8 4 rfl rfl hv9 rfl (by decide) dX5_init_33 (fun H locs hI => ?_)
  rw [ixl_4] at hI
  have hI : KI g _ s ((q1, .inl (g.2.1 2, 8, .inr (.inr (.inr (.inr (va_up (va_up (va_up (va_up (va_up (fun _ => none) 0 (some q2)) 1 (some q5)) 2 (some q8)) 3 (some q11)) 4 (some q14))))))) :: (a, .inr (7, [.ref q1, .int 0, .int 0])) :: (blA g u15 ++ ((blA g u12 ++ ((blA g u9 ++ ((blA g u6 ++ ((blA g u3 ++ (X))))))))))) H locs := hI
  refine lv_iinc (v := 5) (lv' := [(1, .int 5), (0, .ref a)]) C0.1 C0.2.1 dX5_init_34 hl (k := 0) rfl (by decide) (by decide) rfl (fun ls hl => ?_)
  refine lv_goto (tgt := 15) C0.1 C0.2.1 dX5_init_37 (by decide) ?_
  refine lv_iload_n C0.1 C0.2.1 dX5_init_15 rfl (lv_at hl 0 rfl) ?_
  refine lv_bipush (v := 8) C0.1 C0.2.1 dX5_init_16 (by decide) ?_
  refine lv_icmp_ge (tgt := 40) C0.1 C0.2.1 dX5_init_18 (by decide) (fun z => absurd z (by decide)) (fun _ => ?_)
  refine lv_aload_n C0.1 C0.2.1 dX5_init_21 rfl (lv_at hl 1 rfl) ?_
  refine n_get (C := RX5) (T := TX5) (N := 3) (ci := 7) C0 hC hI iX5 1 rfl rfl 0 (by decide) rfl w_243 dX5_init_22 ?_
  refine lv_iload_n C0.1 C0.2.1 dX5_init_25 rfl (lv_at hl 0 rfl) ?_
  refine n_new (C := RX2) (T := TX2) (N := 12) (ci := 4) C0 hC hI iX2 tyX2 tyX2_ok w_240 w_115 w_72 rfl fr_RX2 (Nat.le_of_ble_eq_true rfl) (Nat.le_of_ble_eq_true rfl) dX5_init_26 (fun q17 H hI => ?_)
  have hI : KI g _ s ((q17, .inr (4, [.int 0, .null, .null, .null, .null, .int 0, .int 0, .null, .int 0, .null, .int 0, .int 0])) :: (q1, .inl (g.2.1 2, 8, .inr (.inr (.inr (.inr (va_up (va_up (va_up (va_up (va_up (fun _ => none) 0 (some q2)) 1 (some q5)) 2 (some q8)) 3 (some q11)) 4 (some q14))))))) :: (a, .inr (7, [.ref q1, .int 0, .int 0])) :: (blA g u15 ++ ((blA g u12 ++ ((blA g u9 ++ ((blA g u6 ++ ((blA g u3 ++ (X))))))))))) H locs := hI
  refine lv_dup C0.1 C0.2.1 dX5_init_29 rfl ?_
  refine n_call (hot := [(q1, .inl (g.2.1 2, 8, .inr (.inr (.inr (.inr (va_up (va_up (va_up (va_up (va_up (fun _ => none) 0 (some q2)) 1 (some q5)) 2 (some q8)) 3 (some q11)) 4 (some q14))))))), (a, .inr (7, [.ref q1, .int 0, .int 0]))]) (Rr := ((blA g u15 ++ ((blA g u12 ++ ((blA g u9 ++ ((blA g u6 ++ ((blA g u3 ++ (X)))))))))))) (e0 := (q17, .inr (4, [.int 0, .null, .null, .null, .null, .int 0, .int 0, .null, .int 0, .null, .int 0, .int 0]))) hC hI (n_IN (As := []) C0 hC hI (cc_X2_init l g ((q1, .inl (g.2.1 2, 8, .inr (.inr (.inr (.inr (va_up (va_up (va_up (va_up (va_up (fun _ => none) 0 (some q2)) 1 (some q5)) 2 (some q8)) 3 (some q11)) 4 (some q14))))))) :: (a, .inr (7, [.ref q1, .int 0, .int 0])) :: (blA g u15 ++ ((blA g u12 ++ ((blA g u9 ++ ((blA g u6 ++ ((blA g u3 ++ (X))))))))))) H.size q17) 3 rfl w_117 w_72 w_118 rfl ⟨rfl, rfl⟩ hd_X2_init ⟨Nat.le_of_ble_eq_true rfl, Nat.le_of_ble_eq_true rfl⟩ rfl hl.1 rfl (Nat.le_of_ble_eq_true rfl) dX5_init_30 ⟨Nat.le_of_ble_eq_true rfl, Nat.le_of_ble_eq_true rfl⟩) (fun u18 H locs hu19 hI => ?_)
  have hI : KI g _ s ((q1, .inl (g.2.1 2, 8, .inr (.inr (.inr (.inr (va_up (va_up (va_up (va_up (va_up (fun _ => none) 0 (some q2)) 1 (some q5)) 2 (some q8)) 3 (some q11)) 4 (some q14))))))) :: (a, .inr (7, [.ref q1, .int 0, .int 0])) :: (blA g u18 ++ ((blA g u15 ++ ((blA g u12 ++ ((blA g u9 ++ ((blA g u6 ++ ((blA g u3 ++ (X))))))))))))) H locs := hI
  have hv9 : ((q1, .inl (g.2.1 2, 8, .inr (.inr (.inr (.inr (va_up (va_up (va_up (va_up (va_up (fun _ => none) 0 (some q2)) 1 (some q5)) 2 (some q8)) 3 (some q11)) 4 (some q14))))))) :: (a, .inr (7, [.ref q1, .int 0, .int 0])) :: (blA g u18 ++ ((blA g u15 ++ ((blA g u12 ++ ((blA g u9 ++ ((blA g u6 ++ ((blA g u3 ++ (X)))))))))))))[8]? = some (q17, .inr (4, fA u18.1 0 z0)) := by rw [← hu19]; rfl
  refine n_aast C0 hC hI 0 2 8 4 rfl rfl hv9 rfl (by decide) dX5_init_33 (fun H locs hI => ?_)
  rw [ixl_5] at hI
  have hI : KI g _ s ((q1, .inl (g.2.1 2, 8, .inr (.inr (.inr (.inr (va_up (va_up (va_up (va_up (va_up (va_up (fun _ => none) 0 (some q2)) 1 (some q5)) 2 (some q8)) 3 (some q11)) 4 (some q14)) 5 (some q17))))))) :: (a, .inr (7, [.ref q1, .int 0, .int 0])) :: (blA g u18 ++ ((blA g u15 ++ ((blA g u12 ++ ((blA g u9 ++ ((blA g u6 ++ ((blA g u3 ++ (X))))))))))))) H locs := hI
  refine lv_iinc (v := 6) (lv' := [(1, .int 6), (0, .ref a)]) C0.1 C0.2.1 dX5_init_34 hl (k := 0) rfl (by decide) (by decide) rfl (fun ls hl => ?_)
  refine lv_goto (tgt := 15) C0.1 C0.2.1 dX5_init_37 (by decide) ?_
  refine lv_iload_n C0.1 C0.2.1 dX5_init_15 rfl (lv_at hl 0 rfl) ?_
  refine lv_bipush (v := 8) C0.1 C0.2.1 dX5_init_16 (by decide) ?_
  refine lv_icmp_ge (tgt := 40) C0.1 C0.2.1 dX5_init_18 (by decide) (fun z => absurd z (by decide)) (fun _ => ?_)
  refine lv_aload_n C0.1 C0.2.1 dX5_init_21 rfl (lv_at hl 1 rfl) ?_
  refine n_get (C := RX5) (T := TX5) (N := 3) (ci := 7) C0 hC hI iX5 1 rfl rfl 0 (by decide) rfl w_243 dX5_init_22 ?_
  refine lv_iload_n C0.1 C0.2.1 dX5_init_25 rfl (lv_at hl 0 rfl) ?_
  refine n_new (C := RX2) (T := TX2) (N := 12) (ci := 4) C0 hC hI iX2 tyX2 tyX2_ok w_240 w_115 w_72 rfl fr_RX2 (Nat.le_of_ble_eq_true rfl) (Nat.le_of_ble_eq_true rfl) dX5_init_26 (fun q20 H hI => ?_)
  have hI : KI g _ s ((q20, .inr (4, [.int 0, .null, .null, .null, .null, .int 0, .int 0, .null, .int 0, .null, .int 0, .int 0])) :: (q1, .inl (g.2.1 2, 8, .inr (.inr (.inr (.inr (va_up (va_up (va_up (va_up (va_up (va_up (fun _ => none) 0 (some q2)) 1 (some q5)) 2 (some q8)) 3 (some q11)) 4 (some q14)) 5 (some q17))))))) :: (a, .inr (7, [.ref q1, .int 0, .int 0])) :: (blA g u18 ++ ((blA g u15 ++ ((blA g u12 ++ ((blA g u9 ++ ((blA g u6 ++ ((blA g u3 ++ (X))))))))))))) H locs := hI
  refine lv_dup C0.1 C0.2.1 dX5_init_29 rfl ?_
  refine n_call (hot := [(q1, .inl (g.2.1 2, 8, .inr (.inr (.inr (.inr (va_up (va_up (va_up (va_up (va_up (va_up (fun _ => none) 0 (some q2)) 1 (some q5)) 2 (some q8)) 3 (some q11)) 4 (some q14)) 5 (some q17))))))), (a, .inr (7, [.ref q1, .int 0, .int 0]))]) (Rr := ((blA g u18 ++ ((blA g u15 ++ ((blA g u12 ++ ((blA g u9 ++ ((blA g u6 ++ ((blA g u3 ++ (X)))))))))))))) (e0 := (q20, .inr (4, [.int 0, .null, .null, .null, .null, .int 0, .int 0, .null, .int 0, .null, .int 0, .int 0]))) hC hI (n_IN (As := []) C0 hC hI (cc_X2_init l g ((q1, .inl (g.2.1 2, 8, .inr (.inr (.inr (.inr (va_up (va_up (va_up (va_up (va_up (va_up (fun _ => none) 0 (some q2)) 1 (some q5)) 2 (some q8)) 3 (some q11)) 4 (some q14)) 5 (some q17))))))) :: (a, .inr (7, [.ref q1, .int 0, .int 0])) :: (blA g u18 ++ ((blA g u15 ++ ((blA g u12 ++ ((blA g u9 ++ ((blA g u6 ++ ((blA g u3 ++ (X))))))))))))) H.size q20) 3 rfl w_117 w_72 w_118 rfl ⟨rfl, rfl⟩ hd_X2_init ⟨Nat.le_of_ble_eq_true rfl, Nat.le_of_ble_eq_true rfl⟩ rfl hl.1 rfl (Nat.le_of_ble_eq_true rfl) dX5_init_30 ⟨Nat.le_of_ble_eq_true rfl, Nat.le_of_ble_eq_true rfl⟩) (fun u21 H locs hu22 hI => ?_)
  have hI : KI g _ s ((q1, .inl (g.2.1 2, 8, .inr (.inr (.inr (.inr (va_up (va_up (va_up (va_up (va_up (va_up (fun _ => none) 0 (some q2)) 1 (some q5)) 2 (some q8)) 3 (some q11)) 4 (some q14)) 5 (some q17))))))) :: (a, .inr (7, [.ref q1, .int 0, .int 0])) :: (blA g u21 ++ ((blA g u18 ++ ((blA g u15 ++ ((blA g u12 ++ ((blA g u9 ++ ((blA g u6 ++ ((blA g u3 ++ (X))))))))))))))) H locs := hI
  have hv9 : ((q1, .inl (g.2.1 2, 8, .inr (.inr (.inr (.inr (va_up (va_up (va_up (va_up (va_up (va_up (fun _ => none) 0 (some q2)) 1 (some q5)) 2 (some q8)) 3 (some q11)) 4 (some q14)) 5 (some q17))))))) :: (a, .inr (7, [.ref q1, .int 0, .int 0])) :: (blA g u21 ++ ((blA g u18 ++ ((blA g u15 ++ ((blA g u12 ++ ((blA g u9 ++ ((blA g u6 ++ ((blA g u3 ++ (X)))))))))))))))[8]? = some (q20, .inr (4, fA u21.1 0 z0)) := by rw [← hu22]; rfl
  refine n_aast C0 hC hI 0 2 8 4 rfl rfl hv9 rfl (by decide) dX5_init_33 (fun H locs hI => ?_)
  rw [ixl_6] at hI
  have hI : KI g _ s ((q1, .inl (g.2.1 2, 8, .inr (.inr (.inr (.inr (va_up (va_up (va_up (va_up (va_up (va_up (va_up (fun _ => none) 0 (some q2)) 1 (some q5)) 2 (some q8)) 3 (some q11)) 4 (some q14)) 5 (some q17)) 6 (some q20))))))) :: (a, .inr (7, [.ref q1, .int 0, .int 0])) :: (blA g u21 ++ ((blA g u18 ++ ((blA g u15 ++ ((blA g u12 ++ ((blA g u9 ++ ((blA g u6 ++ ((blA g u3 ++ (X))))))))))))))) H locs := hI
  refine lv_iinc (v := 7) (lv' := [(1, .int 7), (0, .ref a)]) C0.1 C0.2.1 dX5_init_34 hl (k := 0) rfl (by decide) (by decide) rfl (fun ls hl => ?_)
  refine lv_goto (tgt := 15) C0.1 C0.2.1 dX5_init_37 (by decide) ?_
  refine lv_iload_n C0.1 C0.2.1 dX5_init_15 rfl (lv_at hl 0 rfl) ?_
  refine lv_bipush (v := 8) C0.1 C0.2.1 dX5_init_16 (by decide) ?_
  refine lv_icmp_ge (tgt := 40) C0.1 C0.2.1 dX5_init_18 (by decide) (fun z => absurd z (by decide)) (fun _ => ?_)
  refine lv_aload_n C0.1 C0.2.1 dX5_init_21 rfl (lv_at hl 1 rfl) ?_
  refine n_get (C := RX5) (T := TX5) (N := 3) (ci := 7) C0 hC hI iX5 1 rfl rfl 0 (by decide) rfl w_243 dX5_init_22 ?_
  refine lv_iload_n C0.1 C0.2.1 dX5_init_25 rfl (lv_at hl 0 rfl) ?_
  refine n_new (C := RX2) (T := TX2) (N := 12) (ci := 4) C0 hC hI iX2 tyX2 tyX2_ok w_240 w_115 w_72 rfl fr_RX2 (Nat.le_of_ble_eq_true rfl) (Nat.le_of_ble_eq_true rfl) dX5_init_26 (fun q23 H hI => ?_)
  have hI : KI g _ s ((q23, .inr (4, [.int 0, .null, .null, .null, .null, .int 0, .int 0, .null, .int 0, .null, .int 0, .int 0])) :: (q1, .inl (g.2.1 2, 8, .inr (.inr (.inr (.inr (va_up (va_up (va_up (va_up (va_up (va_up (va_up (fun _ => none) 0 (some q2)) 1 (some q5)) 2 (some q8)) 3 (some q11)) 4 (some q14)) 5 (some q17)) 6 (some q20))))))) :: (a, .inr (7, [.ref q1, .int 0, .int 0])) :: (blA g u21 ++ ((blA g u18 ++ ((blA g u15 ++ ((blA g u12 ++ ((blA g u9 ++ ((blA g u6 ++ ((blA g u3 ++ (X))))))))))))))) H locs := hI
  refine lv_dup C0.1 C0.2.1 dX5_init_29 rfl ?_
  refine n_call (hot := [(q1, .inl (g.2.1 2, 8, .inr (.inr (.inr (.inr (va_up (va_up (va_up (va_up (va_up (va_up (va_up (fun _ => none) 0 (some q2)) 1 (some q5)) 2 (some q8)) 3 (some q11)) 4 (some q14)) 5 (some q17)) 6 (some q20))))))), (a, .inr (7, [.ref q1, .int 0, .int 0]))]) (Rr := ((blA g u21 ++ ((blA g u18 ++ ((blA g u15 ++ ((blA g u12 ++ ((blA g u9 ++ ((blA g u6 ++ ((blA g u3 ++ (X)))))))))))))))) (e0 := (q23, .inr (4, [.int 0, .null, .null, .null, .null, .int 0, .int 0, .null, .int 0, .null, .int 0, .int 0]))) hC hI (n_IN (As := []) C0 hC hI (cc_X2_init l g ((q1, .inl (g.2.1 2, 8, .inr (.inr (.inr (.inr (va_up (va_up (va_up (va_up (va_up (va_up (va_up (fun _ => none) 0 (some q2)) 1 (some q5)) 2 (some q8)) 3 (some q11)) 4 (some q14)) 5 (some q17)) 6 (some q20))))))) :: (a, .inr (7, [.ref q1, .int 0, .int 0])) :: (blA g u21 ++ ((blA g u18 ++ ((blA g u15 ++ ((blA g u12 ++ ((blA g u9 ++ ((blA g u6 ++ ((blA g u3 ++ (X))))))))))))))) H.size q23) 3 rfl w_117 w_72 w_118 rfl ⟨rfl, rfl⟩ hd_X2_init ⟨Nat.le_of_ble_eq_true rfl, Nat.le_of_ble_eq_true rfl⟩ rfl hl.1 rfl (Nat.le_of_ble_eq_true rfl) dX5_init_30 ⟨Nat.le_of_ble_eq_true rfl, Nat.le_of_ble_eq_true rfl⟩) (fun u24 H locs hu25 hI => ?_)
  have hI : KI g _ s ((q1, .inl (g.2.1 2, 8, .inr (.inr (.inr (.inr (va_up (va_up (va_up (va_up (va_up (va_up (va_up (fun _ => none) 0 (some q2)) 1 (some q5)) 2 (some q8)) 3 (some q11)) 4 (some q14)) 5 (some q17)) 6 (some q20))))))) :: (a, .inr (7, [.ref q1, .int 0, .int 0])) :: (blA g u24 ++ ((blA g u21 ++ ((blA g u18 ++ ((blA g u15 ++ ((blA g u12 ++ ((blA g u9 ++ ((blA g u6 ++ ((blA g u3 ++ (X))))))))))))))))) H locs := hI
  have hv9 : ((q1, .inl (g.2.1 2, 8, .inr (.inr (.inr (.inr (va_up (va_up (va_up (va_up (va_up (va_up (va_up (fun _ => none) 0 (some q2)) 1 (some q5)) 2 (some q8)) 3 (some q11)) 4 (some q14)) 5 (some q17)) 6 (some q20))))))) :: (a, .inr (7, [.ref q1, .int 0, .int 0])) :: (blA g u24 ++ ((blA g u21 ++ ((blA g u18 ++ ((blA g u15 ++ ((blA g u12 ++ ((blA g u9 ++ ((blA g u6 ++ ((blA g u3 ++ (X)))))))))))))))))[8]? = some (q23, .inr (4, fA u24.1 0 z0)) := by rw [← hu25]; rfl
  refine n_aast C0 hC hI 0 2 8 4 rfl rfl hv9 rfl (by decide) dX5_init_33 (fun H locs hI => ?_)
  rw [ixl_7] at hI
  have hI : KI g _ s ((q1, .inl (g.2.1 2, 8, .inr (.inr (.inr (.inr (va_up (va_up (va_up (va_up (va_up (va_up (va_up (va_up (fun _ => none) 0 (some q2)) 1 (some q5)) 2 (some q8)) 3 (some q11)) 4 (some q14)) 5 (some q17)) 6 (some q20)) 7 (some q23))))))) :: (a, .inr (7, [.ref q1, .int 0, .int 0])) :: (blA g u24 ++ ((blA g u21 ++ ((blA g u18 ++ ((blA g u15 ++ ((blA g u12 ++ ((blA g u9 ++ ((blA g u6 ++ ((blA g u3 ++ (X))))))))))))))))) H locs := hI
  refine lv_iinc (v := 8) (lv' := [(1, .int 8), (0, .ref a)]) C0.1 C0.2.1 dX5_init_34 hl (k := 0) rfl (by decide) (by decide) rfl (fun ls hl => ?_)
  refine lv_goto (tgt := 15) C0.1 C0.2.1 dX5_init_37 (by decide) ?_
  refine lv_iload_n C0.1 C0.2.1 dX5_init_15 rfl (lv_at hl 0 rfl) ?_
  refine lv_bipush (v := 8) C0.1 C0.2.1 dX5_init_16 (by decide) ?_
  refine lv_icmp_ge (tgt := 40) C0.1 C0.2.1 dX5_init_18 (by decide) (fun _ => ?_) (fun z => absurd (by decide) z)
  subst hu4
  subst hu7
  subst hu10
  subst hu13
  subst hu16
  subst hu19
  subst hu22
  subst hu25
  exact n_end C0 hI hr hlocks ((fun j => [a, q1].getD j 0), fun i => [u3, u6, u9, u12, u15, u18, u21, u24].getD i (fun _ => 0, fun _ _ => 0)) rfl (by simp only [blH, List.append_assoc, List.cons_append, List.nil_append]; rfl) dX5_init_40

theorem hd_X8_init : yX8_init.cls ≠ "java/lang/invoke/MethodHandle" ∧ yX8_init.cls ≠ "java/lang/invoke/VarHandle" ∧ (parseMethodDescriptor yX8_init.desc).map (fun d => d.parameters.length) = some 0 := ⟨by decide +kernel, by decide +kernel, by decide +kernel⟩
set_option maxHeartbeats 8000000 in
set_option maxRecDepth 100000 in
theorem cc_X8_init (l : Launch) (g : GG) (X : va_W) (sz a : Nat) : Met l yX8_init (.code yX8_init cX8_init 1 none :: LWg) (rmD 1 1 12) (va_Pc [.ref a] (PreC g ((a, .inr (9, [.null, .int 0])) :: X) sz)) (QC g X ((a, .inr (9, [.null, .int 0])) :: X) sz (fun u : Nat → Nat => u 0 = a) (fun u => blQ g u)) 1 12 (AA ((a, .inr (9, [.null, .int 0])) :: X) b00 0 sz) := by
  refine metC_go (by decide +kernel) rfl (Nat.le_of_ble_eq_true rfl) ?_
  intro p e s m below meth c ls H locs C0 hC hr hlocks hnm hsz hl hI
  subst hsz
  have hl : lv_has ls 1 [(0, .ref a)] := hl
  refine lv_aload_n C0.1 C0.2.1 dX8_init_0 rfl (lv_at hl 0 rfl) ?_
  refine n_obj C0 hl.1 w_259 dX8_init_1 ⟨Nat.le_of_ble_eq_true rfl, Nat.le_of_ble_eq_true rfl⟩ ?_
  refine lv_aload_n C0.1 C0.2.1 dX8_init_4 rfl (lv_at hl 0 rfl) ?_
  refine lv_bipush (v := 12) C0.1 C0.2.1 dX8_init_5 (by decide) ?_
  refine n_newi (N' := 12) C0 hC hI (by decide) rfl (by decide) (Nat.le_of_ble_eq_true rfl) (Nat.le_of_ble_eq_true rfl) dX8_init_7 (fun q1 H hI => ?_)
  have hI : KI g _ s ((q1, .inl (g.2.1 0, 12, .inl (fun _ => 0))) :: (a, .inr (9, [.null, .int 0])) :: X) H locs := hI
  refine n_putF (C := RX8) (T := TX8) (N := 2) (ci := 9) (ty := (.array .int)) C0 hC hI hnm iX8 tyX8 tyX8_ok nmX8 1 rfl rfl 0 (by decide) w_260 rfl rfl (by decide +kernel) rfl rfl (Nat.le_of_ble_eq_true rfl) dX8_init_9 (fun H locs hI => ?_)
  have hI : KI g _ s ((q1, .inl (g.2.1 0, 12, .inl (fun _ => 0))) :: (a, .inr (9, [.ref q1, .int 0])) :: X) H locs := hI
  exact n_end C0 hI hr hlocks (fun j => [a, q1].getD j 0) rfl rfl dX8_init_12

theorem hd_X3_init : yX3_init.cls ≠ "java/lang/invoke/MethodHandle" ∧ yX3_init.cls ≠ "java/lang/invoke/VarHandle" ∧ (parseMethodDescriptor yX3_init.desc).map (fun d => d.parameters.length) = some 0 := ⟨by decide +kernel, by decide +kernel, by decide +kernel⟩
set_option maxHeartbeats 8000000 in
set_option maxRecDepth 100000 in
theorem cc_X3_init (l : Launch) (g : GG) (X : va_W) (sz a : Nat) : Met l yX3_init (.code yX3_init cX3_init 1 none :: LWg) (rmD 1 1 4) (va_Pc [.ref a] (PreC g ((a, .inr (5, [.null, .null, .int 0])) :: X) sz)) (QC g X ((a, .inr (5, [.null, .null, .int 0])) :: X) sz (fun u : Nat → Nat => u 0 = a) (fun u => blC g u)) 1 4 (AA ((a, .inr (5, [.null, .null, .int 0])) :: X) b00 0 sz) := by
  refine metC_go (by decide +kernel) rfl (Nat.le_of_ble_eq_true rfl) ?_
  intro p e s m below meth c ls H locs C0 hC hr hlocks hnm hsz hl hI
  subst hsz
  have hl : lv_has ls 1 [(0, .ref a)] := hl
  refine lv_aload_n C0.1 C0.2.1 dX3_init_0 rfl (lv_at hl 0 rfl) ?_
  refine n_obj C0 hl.1 w_279 dX3_init_1 ⟨Nat.le_of_ble_eq_true rfl, Nat.le_of_ble_eq_true rfl⟩ ?_
  refine lv_aload_n C0.1 C0.2.1 dX3_init_4 rfl (lv_at hl 0 rfl) ?_
  refine n_frog C0 hC hI w_280 dX3_init_5 ?_
  refine n_put (C := RX3) (T := TX3) (N := 3) (ci := 5) (ty := (.object "FrogParliament$Action")) C0 hC hI iX3 tyX3 tyX3_ok nmX3 0 rfl rfl 0 (by decide) w_282 rfl (by decide +kernel) rfl rfl (Nat.le_of_ble_eq_true rfl) dX3_init_8 (fun H locs hI => ?_)
  have hI : KI g _ s ((a, .inr (5, [.ref (g.2.2 1 0), .null, .int 0])) :: X) H locs := hI
  refine lv_aload_n C0.1 C0.2.1 dX3_init_11 rfl (lv_at hl 0 rfl) ?_
  refine lv_iconst (v := 4) C0.1 C0.2.1 dX3_init_12 (by decide) ?_
  refine n_newi (N' := 4) C0 hC hI (by decide) rfl (by decide) (Nat.le_of_ble_eq_true rfl) (Nat.le_of_ble_eq_true rfl) dX3_init_13 (fun q1 H hI => ?_)
  have hI : KI g _ s ((q1, .inl (g.2.1 0, 4, .inl (fun _ => 0))) :: (a, .inr (5, [.ref (g.2.2 1 0), .null, .int 0])) :: X) H locs := hI
  refine n_putF (C := RX3) (T := TX3) (N := 3) (ci := 5) (ty := (.array .int)) C0 hC hI hnm iX3 tyX3 tyX3_ok nmX3 1 rfl rfl 1 (by decide) w_285 rfl rfl (by decide +kernel) rfl rfl (Nat.le_of_ble_eq_true rfl) dX3_init_15 (fun H locs hI => ?_)
  have hI : KI g _ s ((q1, .inl (g.2.1 0, 4, .inl (fun _ => 0))) :: (a, .inr (5, [.ref (g.2.2 1 0), .ref q1, .int 0])) :: X) H locs := hI
  exact n_end C0 hI hr hlocks (fun j => [a, q1].getD j 0) rfl rfl dX3_init_18

theorem hd_X4_init : yX4_init.cls ≠ "java/lang/invoke/MethodHandle" ∧ yX4_init.cls ≠ "java/lang/invoke/VarHandle" ∧ (parseMethodDescriptor yX4_init.desc).map (fun d => d.parameters.length) = some 0 := ⟨by decide +kernel, by decide +kernel, by decide +kernel⟩
set_option maxHeartbeats 8000000 in
set_option maxRecDepth 100000 in
theorem cc_X4_init (l : Launch) (g : GG) (X : va_W) (sz a : Nat) : Met l yX4_init (.code yX4_init cX4_init 2 none :: LWg) (rmD 2 23 88) (va_Pc [.ref a] (PreC g ((a, .inr (6, [.null, .int 0, .int 0])) :: X) sz)) (QC g X ((a, .inr (6, [.null, .int 0, .int 0])) :: X) sz (fun u : tyA => u.1 0 = a) (fun u => blR g u)) 23 88 (AA ((a, .inr (6, [.null, .int 0, .int 0])) :: X) b00 0 sz) := by
  refine metC_go (by decide +kernel) rfl (Nat.le_of_ble_eq_true rfl) ?_
  intro p e s m below meth c ls H locs C0 hC hr hlocks hnm hsz hl hI
  subst hsz
  have hl : lv_has ls 2 [(0, .ref a)] := hl
  refine lv_aload_n C0.1 C0.2.1 dX4_init_0 rfl (lv_at hl 0 rfl) ?_
  refine n_obj C0 hl.1 w_272 dX4_init_1 ⟨Nat.le_of_ble_eq_true rfl, Nat.le_of_ble_eq_true rfl⟩ ?_
  refine lv_aload_n C0.1 C0.2.1 dX4_init_4 rfl (lv_at hl 0 rfl) ?_
  refine lv_bipush (v := 11) C0.1 C0.2.1 dX4_init_5 (by decide) ?_
  refine n_newq (N' := 11) C0 hC hI 2 rfl (t0 := 3) rfl w_273 (by decide) rfl (by decide) (Nat.le_of_ble_eq_true rfl) (Nat.le_of_ble_eq_true rfl) dX4_init_7 (fun q1 H hI => ?_)
  have hI : KI g _ s ((q1, .inl (g.2.1 3, 11, .inr (.inr (.inr (.inr (fun _ => none)))))) :: (a, .inr (6, [.null, .int 0, .int 0])) :: X) H locs := hI
  refine n_putF (C := RX4) (T := TX4) (N := 3) (ci := 6) (ty := (.array (.object "FrogParliament$Command"))) C0 hC hI hnm iX4 tyX4 tyX4_ok nmX4 1 rfl rfl 0 (by decide) w_296 rfl rfl (by decide +kernel) rfl rfl (Nat.le_of_ble_eq_true rfl) dX4_init_10 (fun H locs hI => ?_)
  have hI : KI g _ s ((q1, .inl (g.2.1 3, 11, .inr (.inr (.inr (.inr (fun _ => none)))))) :: (a, .inr (6, [.ref q1, .int 0, .int 0])) :: X) H locs := hI
  refine lv_iconst (v := 0) C0.1 C0.2.1 dX4_init_13 (by decide) ?_
  refine lv_istore_n (lv' := [(1, .int 0), (0, .ref a)]) C0.1 C0.2.1 dX4_init_14 rfl hl (by decide) rfl (fun ls hl => ?_)
  refine lv_iload_n C0.1 C0.2.1 dX4_init_15 rfl (lv_at hl 0 rfl) ?_
  refine lv_bipush (v := 11) C0.1 C0.2.1 dX4_init_16 (by decide) ?_
  refine lv_icmp_ge (tgt := 40) C0.1 C0.2.1 dX4_init_18 (by decide) (fun z => absurd z (by decide)) (fun _ => ?_)
  refine lv_aload_n C0.1 C0.2.1 dX4_init_21 rfl (lv_at hl 1 rfl) ?_
  refine n_get (C := RX4) (T := TX4) (N := 3) (ci := 6) C0 hC hI iX4 1 rfl rfl 0 (by decide) rfl w_296 dX4_init_22 ?_
  refine lv_iload_n C0.1 C0.2.1 dX4_init_25 rfl (lv_at hl 0 rfl) ?_
  refine n_new (C := RX3) (T := TX3) (N := 3) (ci := 5) C0 hC hI iX3 tyX3 tyX3_ok w_273 w_275 w_77 rfl fr_RX3 (Nat.le_of_ble_eq_true rfl) (Nat.le_of_ble_eq_true rfl) dX4_init_26 (fun q2 H hI => ?_)
  have hI : KI g _ s ((q2, .inr (5, [.null, .null, .int 0])) :: (q1, .inl (g.2.1 3, 11, .inr (.inr (.inr (.inr (fun _ => none)))))) :: (a, .inr (6, [.ref q1, .int 0, .int 0])) :: X) H locs := hI
  refine lv_dup C0.1 C0.2.1 dX4_init_29 rfl ?_
  refine n_call (hot := [(q1, .inl (g.2.1 3, 11, .inr (.inr (.inr (.inr (fun _ => none)))))), (a, .inr (6, [.ref q1, .int 0, .int 0]))]) (Rr := (X)) (e0 := (q2, .inr (5, [.null, .null, .int 0]))) hC hI (n_IN (As := []) C0 hC hI (cc_X3_init l g ((q1, .inl (g.2.1 3, 11, .inr (.inr (.inr (.inr (fun _ => none)))))) :: (a, .inr (6, [.ref q1, .int 0, .int 0])) :: X) H.size q2) 6 rfl w_277 w_77 w_278 rfl ⟨rfl, rfl⟩ hd_X3_init ⟨Nat.le_of_ble_eq_true rfl, Nat.le_of_ble_eq_true rfl⟩ rfl hl.1 rfl (Nat.le_of_ble_eq_true rfl) dX4_init_30 ⟨Nat.le_of_ble_eq_true rfl, Nat.le_of_ble_eq_true rfl⟩) (fun u3 H locs hu4 hI => ?_)
  have hI : KI g _ s ((q1, .inl (g.2.1 3, 11, .inr (.inr (.inr (.inr (fun _ => none)))))) :: (a, .inr (6, [.ref q1, .int 0, .int 0])) :: (blC g u3 ++ (X))) H locs := hI
  have hv9 : ((q1, .inl (g.2.1 3, 11, .inr (.inr (.inr (.inr (fun _ => none)))))) :: (a, .inr (6, [.ref q1, .int 0, .int 0])) :: (blC g u3 ++ (X)))[3]? = some (q2, .inr (5, fC g u3 0 z0)) := by rw [← hu4]; rfl
  refine n_aast C0 hC hI 0 3 3 5 rfl rfl hv9 rfl (by decide) dX4_init_33 (fun H locs hI => ?_)
  rw [ixl_0] at hI
  have hI : KI g _ s ((q1, .inl (g.2.1 3, 11, .inr (.inr (.inr (.inr (va_up (fun _ => none) 0 (some q2))))))) :: (a, .inr (6, [.ref q1, .int 0, .int 0])) :: (blC g u3 ++ (X))) H locs := hI
  refine lv_iinc (v := 1) (lv' := [(1, .int 1), (0, .ref a)]) C0.1 C0.2.1 dX4_init_34 hl (k := 0) rfl (by decide) (by decide) rfl (fun ls hl => ?_)
  refine lv_goto (tgt := 15) C0.1 C0.2.1 dX4_init_37 (by decide) ?_
  refine lv_iload_n C0.1 C0.2.1 dX4_init_15 rfl (lv_at hl 0 rfl) ?_
  refine lv_bipush (v := 11) C0.1 C0.2.1 dX4_init_16 (by decide) ?_
  refine lv_icmp_ge (tgt := 40) C0.1 C0.2.1 dX4_init_18 (by decide) (fun z => absurd z (by decide)) (fun _ => ?_)
  refine lv_aload_n C0.1 C0.2.1 dX4_init_21 rfl (lv_at hl 1 rfl) ?_
  refine n_get (C := RX4) (T := TX4) (N := 3) (ci := 6) C0 hC hI iX4 1 rfl rfl 0 (by decide) rfl w_296 dX4_init_22 ?_
  refine lv_iload_n C0.1 C0.2.1 dX4_init_25 rfl (lv_at hl 0 rfl) ?_
  refine n_new (C := RX3) (T := TX3) (N := 3) (ci := 5) C0 hC hI iX3 tyX3 tyX3_ok w_273 w_275 w_77 rfl fr_RX3 (Nat.le_of_ble_eq_true rfl) (Nat.le_of_ble_eq_true rfl) dX4_init_26 (fun q5 H hI => ?_)
  have hI : KI g _ s ((q5, .inr (5, [.null, .null, .int 0])) :: (q1, .inl (g.2.1 3, 11, .inr (.inr (.inr (.inr (va_up (fun _ => none) 0 (some q2))))))) :: (a, .inr (6, [.ref q1, .int 0, .int 0])) :: (blC g u3 ++ (X))) H locs := hI
  refine lv_dup C0.1 C0.2.1 dX4_init_29 rfl ?_
  refine n_call (hot := [(q1, .inl (g.2.1 3, 11, .inr (.inr (.inr (.inr (va_up (fun _ => none) 0 (some q2))))))), (a, .inr (6, [.ref q1, .int 0, .int 0]))]) (Rr := ((blC g u3 ++ (X)))) (e0 := (q5, .inr (5, [.null, .null, .int 0]))) hC hI (n_IN (As := []) C0 hC hI (cc_X3_init l g ((q1, .inl (g.2.1 3, 11, .inr (.inr (.inr (.inr (va_up (fun _ => none) 0 (some q2))))))) :: (a, .inr (6, [.ref q1, .int 0, .int 0])) :: (blC g u3 ++ (X))) H.size q5) 6 rfl w_277 w_77 w_278 rfl ⟨rfl, rfl⟩ hd_X3_init ⟨Nat.le_of_ble_eq_true rfl, Nat.le_of_ble_eq_true rfl⟩ rfl hl.1 rfl (Nat.le_of_ble_eq_true rfl) dX4_init_30 ⟨Nat.le_of_ble_eq_true rfl, Nat.le_of_ble_eq_true rfl⟩) (fun u6 H locs hu7 hI => ?_)
  have hI : KI g _ s ((q1, .inl (g.2.1 3, 11, .inr (.inr (.inr (.inr (va_up (fun _ => none) 0 (some q2))))))) :: (a, .inr (6, [.ref q1, .int 0, .int 0])) :: (blC g u6 ++ ((blC g u3 ++ (X))))) H locs := hI
  have hv9 : ((q1, .inl (g.2.1 3, 11, .inr (.inr (.inr (.inr (va_up (fun _ => none) 0 (some q2))))))) :: (a, .inr (6, [.ref q1, .int 0, .int 0])) :: (blC g u6 ++ ((blC g u3 ++ (X)))))[3]? = some (q5, .inr (5, fC g u6 0 z0)) := by rw [← hu7]; rfl
  refine n_aast C0 hC hI 0 3 3 5 rfl rfl hv9 rfl (by decide) dX4_init_33 (fun H locs hI => ?_)
  rw [ixl_1] at hI
  have hI : KI g _ s ((q1, .inl (g.2.1 3, 11, .inr (.inr (.inr (.inr (va_up (va_up (fun _ => none) 0 (some q2)) 1 (some q5))))))) :: (a, .inr (6, [.ref q1, .int 0, .int 0])) :: (blC g u6 ++ ((blC g u3 ++ (X))))) H locs := hI
  refine lv_iinc (v := 2) (lv' := [(1, .int 2), (0, .ref a)]) C0.1 C0.2.1 dX4_init_34 hl (k := 0) rfl (by decide) (by decide) rfl (fun ls hl => ?_)
  refine lv_goto (tgt := 15) C0.1 C0.2.1 dX4_init_37 (by decide) ?_
  refine lv_iload_n C0.1 C0.2.1 dX4_init_15 rfl (lv_at hl 0 rfl) ?_
  refine lv_bipush (v := 11) C0.1 C0.2.1 dX4_init_16 (by decide) ?_
  refine lv_icmp_ge (tgt := 40) C0.1 C0.2.1 dX4_init_18 (by decide) (fun z => absurd z (by decide)) (fun _ => ?_)
  refine lv_aload_n C0.1 C0.2.1 dX4_init_21 rfl (lv_at hl 1 rfl) ?_
  refine n_get (C := RX4) (T := TX4) (N := 3) (ci := 6) C0 hC hI iX4 1 rfl rfl 0 (by decide) rfl w_296 dX4_init_22 ?_
  refine lv_iload_n C0.1 C0.2.1 dX4_init_25 rfl (lv_at hl 0 rfl) ?_
  refine n_new (C := RX3) (T := TX3) (N := 3) (ci := 5) C0 hC hI iX3 tyX3 tyX3_ok w_273 w_275 w_77 rfl fr_RX3 (Nat.le_of_ble_eq_true rfl) (Nat.le_of_ble_eq_true rfl) dX4_init_26 (fun q8 H hI => ?_)
  have hI : KI g _ s ((q8, .inr (5, [.null, .null, .int 0])) :: (q1, .inl (g.2.1 3, 11, .inr (.inr (.inr (.inr (va_up (va_up (fun _ => none) 0 (some q2)) 1 (some q5))))))) :: (a, .inr (6, [.ref q1, .int 0, .int 0])) :: (blC g u6 ++ ((blC g u3 ++ (X))))) H locs := hI
  refine lv_dup C0.1 C0.2.1 dX4_init_29 rfl ?_
  refine n_call (hot := [(q1, .inl (g.2.1 3, 11, .inr (.inr (.inr (.inr (va_up (va_up (fun _ => none) 0 (some q2)) 1 (some q5))))))), (a, .inr (6, [.ref q1, .int 0, .int 0]))]) (Rr := ((blC g u6 ++ ((blC g u3 ++ (X)))))) (e0 := (q8, .inr (5, [.null, .null, .int 0]))) hC hI (n_IN (As := []) C0 hC hI (cc_X3_init l g ((q1, .inl (g.2.1 3, 11, .inr (.inr (.inr (.inr (va_up (va_up (fun _ => none) 0 (some q2)) 1 (some q5))))))) :: (a, .inr (6, [.ref q1, .int 0, .int 0])) :: (blC g u6 ++ ((blC g u3 ++ (X))))) H.size q8) 6 rfl w_277 w_77 w_278 rfl ⟨rfl, rfl⟩ hd_X3_init ⟨Nat.le_of_ble_eq_true rfl, Nat.le_of_ble_eq_true rfl⟩ rfl hl.1 rfl (Nat.le_of_ble_eq_true rfl) dX4_init_30 ⟨Nat.le_of_ble_eq_true rfl, Nat.le_of_ble_eq_true rfl⟩) (fun u9 H locs hu10 hI => ?_)
  have hI : KI g _ s ((q1, .inl (g.2.1 3, 11, .inr (.inr (.inr (.inr (va_up (va_up (fun _ => none) 0 (some q2)) 1 (some q5))))))) :: (a, .inr (6, [.ref q1, .int 0, .int 0])) :: (blC g u9 ++ ((blC g u6 ++ ((blC g u3 ++ (X))))))) H locs := hI
  have hv9 : ((q1, .inl (g.2.1 3, 11, .inr (.inr (.inr (.inr (va_up (va_up (fun _ => none) 0 (some q2)) 1 (some q5))))))) :: (a, .inr (6, [.ref q1, .int 0, .int 0])) :: (blC g u9 ++ ((blC g u6 ++ ((blC g u3 ++ (X)))))))[3]? = some (q8, .inr (5, fC g u9 0 z0)) := by rw [← hu10]; rfl
  refine n_aast C0 hC hI 0 3 3 5 rfl rfl hv9 rfl (by decide) dX4_init_33 (fun H locs hI => ?_)
  rw [ixl_2] at hI
  have hI : KI g _ s ((q1, .inl (g.2.1 3, 11, .inr (.inr (.inr (.inr (va_up (va_up (va_up (fun _ => none) 0 (some q2)) 1 (some q5)) 2 (some q8))))))) :: (a, .inr (6, [.ref q1, .int 0, .int 0])) :: (blC g u9 ++ ((blC g u6 ++ ((blC g u3 ++ (X))))))) H locs := hI
  refine lv_iinc (v := 3) (lv' := [(1, .int 3), (0, .ref a)]) C0.1 C0.2.1 dX4_init_34 hl (k := 0) rfl (by decide) (by decide) rfl (fun ls hl => ?_)
  refine lv_goto (tgt := 15) C0.1 C0.2.1 dX4_init_37 (by decide) ?_
  refine lv_iload_n C0.1 C0.2.1 dX4_init_15 rfl (lv_at hl 0 rfl) ?_
  refine lv_bipush (v := 11) C0.1 C0.2.1 dX4_init_16 (by decide) ?_
  refine lv_icmp_ge (tgt := 40) C0.1 C0.2.1 dX4_init_18 (by decide) (fun z => absurd z (by decide)) (fun _ => ?_)
  refine lv_aload_n C0.1 C0.2.1 dX4_init_21 rfl (lv_at hl 1 rfl) ?_
  refine n_get (C := RX4) (T := TX4) (N := 3) (ci := 6) C0 hC hI iX4 1 rfl rfl 0 (by decide) rfl w_296 dX4_init_22 ?_
  refine lv_iload_n C0.1 C0.2.1 dX4_init_25 rfl (lv_at hl 0 rfl) ?_
  refine n_new (C := RX3) (T := TX3) (N := 3) (ci := 5) C0 hC hI iX3 tyX3 tyX3_ok w_273 w_275 w_77 rfl fr_RX3 (Nat.le_of_ble_eq_true rfl) (Nat.le_of_ble_eq_true rfl) dX4_init_26 (fun q11 H hI => ?_)
  have hI : KI g _ s ((q11, .inr (5, [.null, .null, .int 0])) :: (q1, .inl (g.2.1 3, 11, .inr (.inr (.inr (.inr (va_up (va_up (va_up (fun _ => none) 0 (some q2)) 1 (some q5)) 2 (some q8))))))) :: (a, .inr (6, [.ref q1, .int 0, .int 0])) :: (blC g u9 ++ ((blC g u6 ++ ((blC g u3 ++ (X))))))) H locs := hI
  refine lv_dup C0.1 C0.2.1 dX4_init_29 rfl ?_
  refine n_call (hot := [(q1, .inl (g.2.1 3, 11, .inr (.inr (.inr (.inr (va_up (va_up (va_up (fun _ => none) 0 (some q2)) 1 (some q5)) 2 (some q8))))))), (a, .inr (6, [.ref q1, .int 0, .int 0]))]) (Rr := ((blC g u9 ++ ((blC g u6 ++ ((blC g u3 ++ (X)))))))) (e0 := (q11, .inr (5, [.null, .null, .int 0]))) hC hI (n_IN (As := []) C0 hC hI (cc_X3_init l g ((q1, .inl (g.2.1 3, 11, .inr (.inr (.inr (.inr (va_up (va_up (va_up (fun _ => none) 0 (some q2)) 1 (some q5)) 2 (some q8))))))) :: (a, .inr (6, [.ref q1, .int 0, .int 0])) :: (blC g u9 ++ ((blC g u6 ++ ((blC g u3 ++ (X))))))) H.size q11) 6 rfl w_277 w_77 w_278 rfl ⟨rfl, rfl⟩ hd_X3_init ⟨Nat.le_of_ble_eq_true rfl, Nat.le_of_ble_eq_true rfl⟩ rfl hl.1 rfl (Nat.le_of_ble_eq_true rfl) dX4_init_30 ⟨Nat.le_of_ble_eq_true rfl, Nat.le_of_ble_eq_true rfl⟩) (fun u12 H locs hu13 hI => ?_)
  have hI : KI g _ s ((q1, .inl (g.2.1 3, 11, .inr (.inr (.inr (.inr (va_up (va_up (va_up (fun _ => none) 0 (some q2)) 1 (some q5)) 2 (some q8))))))) :: (a, .inr (6, [.ref q1, .int 0, .int 0])) :: (blC g u12 ++ ((blC g u9 ++ ((blC g u6 ++ ((blC g u3 ++ (X))))))))) H locs := hI
  have hv9 : ((q1, .inl (g.2.1 3, 11, .inr (.inr (.inr (.inr (va_up (va_up (va_up (fun _ => none) 0 (some q2)) 1 (some q5)) 2 (some q8))))))) :: (a, .inr (6, [.ref q1, .int 0, .int 0])) :: (blC g u12 ++ ((blC g u9 ++ ((blC g u6 ++ ((blC g u3 ++ (X)))))))))[3]? = some (q11, .inr (5, fC g u12 0 z0)) := by rw [← hu13]; rfl
  refine n_aast C0 hC hI 0 3 3 5 rfl rfl hv9 rfl (by decide) dX4_init_33 (fun H locs hI => ?_)
  rw [ixl_3] at hI
  have hI : KI g _ s ((q1, .inl (g.2.1 3, 11, .inr (.inr (.inr (.inr (va_up (va_up (va_up (va_up (fun _ => none) 0 (some q2)) 1 (some q5)) 2 (some q8)) 3 (some q11))))))) :: (a, .inr (6, [.ref q1, .int 0, .int 0])) :: (blC g u12 ++ ((blC g u9 ++ ((blC g u6 ++ ((blC g u3 ++ (X))))))))) H locs := hI
  refine lv_iinc (v := 4) (lv' := [(1, .int 4), (0, .ref a)]) C0.1 C0.2.1 dX4_init_34 hl (k := 0) rfl (by decide) (by decide) rfl (fun ls hl => ?_)
  refine lv_goto (tgt := 15) C0.1 C0.2.1 dX4_init_37 (by decide) ?_
  refine lv_iload_n C0.1 C0.2.1 dX4_init_15 rfl (lv_at hl 0 rfl) ?_
  refine lv_bipush (v := 11) C0.1 C0.2.1 dX4_init_16 (by decide) ?_
  refine lv_icmp_ge (tgt := 40) C0.1 C0.2.1 dX4_init_18 (by decide) (fun z => absurd z (by decide)) (fun _ => ?_)
  refine lv_aload_n C0.1 C0.2.1 dX4_init_21 rfl (lv_at hl 1 rfl) ?_
  refine n_get (C := RX4) (T := TX4) (N := 3) (ci := 6) C0 hC hI iX4 1 rfl rfl 0 (by decide) rfl w_296 dX4_init_22 ?_
  refine lv_iload_n C0.1 C0.2.1 dX4_init_25 rfl (lv_at hl 0 rfl) ?_
  refine n_new (C := RX3) (T := TX3) (N := 3) (ci := 5) C0 hC hI iX3 tyX3 tyX3_ok w_273 w_275 w_77 rfl fr_RX3 (Nat.le_of_ble_eq_true rfl) (Nat.le_of_ble_eq_true rfl) dX4_init_26 (fun q14 H hI => ?_)
  have hI : KI g _ s ((q14, .inr (5, [.null, .null, .int 0])) :: (q1, .inl (g.2.1 3, 11, .inr (.inr (.inr (.inr (va_up (va_up (va_up (va_up (fun _ => none) 0 (some q2)) 1 (some q5)) 2 (some q8)) 3 (some q11))))))) :: (a, .inr (6, [.ref q1, .int 0, .int 0])) :: (blC g u12 ++ ((blC g u9 ++ ((blC g u6 ++ ((blC g u3 ++ (X))))))))) H locs := hI
  refine lv_dup C0.1 C0.2.1 dX4_init_29 rfl ?_
  refine n_call (hot := [(q1, .inl (g.2.1 3, 11, .inr (.inr (.inr (.inr (va_up (va_up (va_up (va_up (fun _ => none) 0 (some q2)) 1 (some q5)) 2 (some q8)) 3 (some q11))))))), (a, .inr (6, [.ref q1, .int 0, .int 0]))]) (Rr := ((blC g u12 ++ ((blC g u9 ++ ((blC g u6 ++ ((blC g u3 ++ (X)))))))))) (e0 := (q14, .inr (5, [.null, .null, .int 0]))) hC hI (n_IN (As := []) C0 hC hI (cc_X3_init l g ((q1, .inl (g.2.1 3, 11, .inr (.inr (.inr (.inr (va_up (va_up (va_up (va_up (fun _ => none) 0 (some q2)) 1 (some q5)) 2 (some q8)) 3 (some q11))))))) :: (a, .inr (6, [.ref q1, .int 0, .int 0])) :: (blC g u12 ++ ((blC g u9 ++ ((blC g u6 ++ ((blC g u3 ++ (X))))))))) H.size q14) 6 rfl w_277 w_77 w_278 rfl ⟨rfl, rfl⟩ hd_X3_init ⟨Nat.le_of_ble_eq_true rfl, Nat.le_of_ble_eq_true rfl⟩ rfl hl.1 rfl (Nat.le_of_ble_eq_true rfl) dX4_init_30 ⟨Nat.le_of_ble_eq_true rfl, Nat.le_of_ble_eq_true rfl⟩) (fun u15 H locs hu16 hI => ?_)
  have hI : KI g _ s ((q1, .inl (g.2.1 3, 11, .inr (.inr (.inr (.inr (va_up (va_up (va_up (va_up (fun _ => none) 0 (some q2)) 1 (some q5)) 2 (some q8)) 3 (some q11))))))) :: (a, .inr (6, [.ref q1, .int 0, .int 0])) :: (blC g u15 ++ ((blC g u12 ++ ((blC g u9 ++ ((blC g u6 ++ ((blC g u3 ++ (X))))))))))) H locs := hI
  have hv9 : ((q1, .inl (g.2.1 3, 11, .inr (.inr (.inr (.inr (va_up (va_up (va_up (va_up (fun _ => none) 0 (some q2)) 1 (some q5)) 2 (some q8)) 3 (some q11))))))) :: (a, .inr (6, [.ref q1, .int 0, .int 0])) :: (blC g u15 ++ ((blC g u12 ++ ((blC g u9 ++ ((blC g u6 ++ ((blC g u3 ++ (X)))))))))))[3]? = some (q14, .inr (5, fC g u15 0 z0)) := by rw [← hu16]; rfl
  refine n_aast C0 hC hI 0 3 3 5 rfl rfl hv9 rfl (by decide) dX4_init_33 (fun H locs hI => ?_)
  rw [ixl_4] at hI
  have hI : KI g _ s ((q1, .inl (g.2.1 3, 11, .inr (.inr (.inr (.inr (va_up (va_up (va_up (va_up (va_up (fun _ => none) 0 (some q2)) 1 (some q5)) 2 (some q8)) 3 (some q11)) 4 (some q14))))))) :: (a, .inr (6, [.ref q1, .int 0, .int 0])) :: (blC g u15 ++ ((blC g u12 ++ ((blC g u9 ++ ((blC g u6 ++ ((blC g u3 ++ (X))))))))))) H locs := hI
  refine lv_iinc (v := 5) (lv' := [(1, .int 5), (0, .ref a)]) C0.1 C0.2.1 dX4_init_34 hl (k := 0) rfl (by decide) (by decide) rfl (fun ls hl => ?_)
  refine lv_goto (tgt := 15) C0.1 C0.2.1 dX4_init_37 (by decide) ?_
  refine lv_iload_n C0.1 C0.2.1 dX4_init_15 rfl (lv_at hl 0 rfl) ?_
  refine lv_bipush (v := 11) C0.1 C0.2.1 dX4_init_16 (by decide) ?_
  refine lv_icmp_ge (tgt := 40) C0.1 C0.2.1 dX4_init_18 (by decide) (fun z => absurd z (by decide)) (fun _ => ?_)
  refine lv_aload_n C0.1 C0.2.1 dX4_init_21 rfl (lv_at hl 1 rfl) ?_
  refine n_get (C := RX4) (T := TX4) (N := 3) (ci := 6) C0 hC hI iX4 1 rfl rfl 0 (by decide) rfl w_296 dX4_init_22 ?_
  refine lv_iload_n C0.1 C0.2.1 dX4_init_25 rfl (lv_at hl 0 rfl) ?_
  refine n_new (C := RX3) (T := TX3) (N := 3) (ci := 5) C0 hC hI iX3 tyX3 tyX3_ok w_273 w_275 w_77 rfl fr_RX3 (Nat.le_of_ble_eq_true rfl) (Nat.le_of_ble_eq_true rfl) dX4_init_26 (fun q17 H hI => ?_)
  have hI : KI g _ s ((q17, .inr (5, [.null, .null, .int 0])) :: (q1, .inl (g.2.1 3, 11, .inr (.inr (.inr (.inr (va_up (va_up (va_up (va_up (va_up (fun _ => none) 0 (some q2)) 1 (some q5)) 2 (some q8)) 3 (some q11)) 4 (some q14))))))) :: (a, .inr (6, [.ref q1, .int 0, .int 0])) :: (blC g u15 ++ ((blC g u12 ++ ((blC g u9 ++ ((blC g u6 ++ ((blC g u3 ++ (X))))))))))) H locs := hI
  refine lv_dup C0.1 C0.2.1 dX4_init_29 rfl ?_
  refine n_call (hot := [(q1, .inl (g.2.1 3, 11, .inr (.inr (.inr (.inr (va_up (va_up (va_up (va_up (va_up (fun _ => none) 0 (some q2)) 1 (some q5)) 2 (some q8)) 3 (some q11)) 4 (some q14))))))), (a, .inr (6, [.ref q1, .int 0, .int 0]))]) (Rr := ((blC g u15 ++ ((blC g u12 ++ ((blC g u9 ++ ((blC g u6 ++ ((blC g u3 ++ (X)))))))))))) (e0 := (q17, .inr (5, [.null, .null, .int 0]))) hC hI (n_IN (As := []) C0 hC hI (cc_X3_init l g ((q1, .inl (g.2.1 3, 11, .inr (.inr (.inr (.inr (va_up (va_up (va_up (va_up (va_up (fun _ => none) 0 (some q2)) 1 (some q5)) 2 (some q8)) 3 (some q11)) 4 (some q14))))))) :: (a, .inr (6, [.ref q1, .int 0, .int 0])) :: (blC g u15 ++ ((blC g u12 ++ ((blC g u9 ++ ((blC g u6 ++ ((blC g u3 ++ (X))))))))))) H.size q17) 6 rfl w_277 w_77 w_278 rfl ⟨rfl, rfl⟩ hd_X3_init ⟨Nat.le_of_ble_eq_true rfl, Nat.le_of_ble_eq_true rfl⟩ rfl hl.1 rfl (Nat.le_of_ble_eq_true rfl) dX4_init_30 ⟨Nat.le_of_ble_eq_true rfl, Nat.le_of_ble_eq_true rfl⟩) (fun u18 H locs hu19 hI => ?_)
  have hI : KI g _ s ((q1, .inl (g.2.1 3, 11, .inr (.inr (.inr (.inr (va_up (va_up (va_up (va_up (va_up (fun _ => none) 0 (some q2)) 1 (some q5)) 2 (some q8)) 3 (some q11)) 4 (some q14))))))) :: (a, .inr (6, [.ref q1, .int 0, .int 0])) :: (blC g u18 ++ ((blC g u15 ++ ((blC g u12 ++ ((blC g u9 ++ ((blC g u6 ++ ((blC g u3 ++ (X))))))))))))) H locs := hI
  have hv9 : ((q1, .inl (g.2.1 3, 11, .inr (.inr (.inr (.inr (va_up (va_up (va_up (va_up (va_up (fun _ => none) 0 (some q2)) 1 (some q5)) 2 (some q8)) 3 (some q11)) 4 (some q14))))))) :: (a, .inr (6, [.ref q1, .int 0, .int 0])) :: (blC g u18 ++ ((blC g u15 ++ ((blC g u12 ++ ((blC g u9 ++ ((blC g u6 ++ ((blC g u3 ++ (X)))))))))))))[3]? = some (q17, .inr (5, fC g u18 0 z0)) := by rw [← hu19]; rfl
  refine n_aast C0 hC hI 0 3 3 5 rfl rfl hv9 rfl (by decide) dX4_init_33 (fun H locs hI => ?_)
  rw [ixl_5] at hI
  have hI : KI g _ s ((q1, .inl (g.2.1 3, 11, .inr (.inr (.inr (.inr (va_up (va_up (va_up (va_up (va_up (va_up (fun _ => none) 0 (some q2)) 1 (some q5)) 2 (some q8)) 3 (some q11)) 4 (some q14)) 5 (some q17))))))) :: (a, .inr (6, [.ref q1, .int 0, .int 0])) :: (blC g u18 ++ ((blC g u15 ++ ((blC g u12 ++ ((blC g u9 ++ ((blC g u6 ++ ((blC g u3 ++ (X))))))))))))) H locs := hI
  refine lv_iinc (v := 6) (lv' := [(1, .int 6), (0, .ref a)]) C0.1 C0.2.1 dX4_init_34 hl (k := 0) rfl (by decide) (by decide) rfl (fun ls hl => ?_)
  refine lv_goto (tgt := 15) C0.1 C0.2.1 dX4_init_37 (by decide) ?_
  refine lv_iload_n C0.1 C0.2.1 dX4_init_15 rfl (lv_at hl 0 rfl) ?_
  refine lv_bipush (v := 11) C0.1 C0.2.1 dX4_init_16 (by decide) ?_
  refine lv_icmp_ge (tgt := 40) C0.1 C0.2.1 dX4_init_18 (by decide) (fun z => absurd z (by decide)) (fun _ => ?_)
  refine lv_aload_n C0.1 C0.2.1 dX4_init_21 rfl (lv_at hl 1 rfl) ?_
  refine n_get (C := RX4) (T := TX4) (N := 3) (ci := 6) C0 hC hI iX4 1 rfl rfl 0 (by decide) rfl w_296 dX4_init_22 ?_
  refine lv_iload_n C0.1 C0.2.1 dX4_init_25 rfl (lv_at hl 0 rfl) ?_
  refine n_new (C := RX3) (T := TX3) (N := 3) (ci := 5) C0 hC hI iX3 tyX3 tyX3_ok w_273 w_275 w_77 rfl fr_RX3 (Nat.le_of_ble_eq_true rfl) (Nat.le_of_ble_eq_true rfl) dX4_init_26 (fun q20 H hI => ?_)
  have hI : KI g _ s ((q20, .inr (5, [.null, .null, .int 0])) :: (q1, .inl (g.2.1 3, 11, .inr (.inr (.inr (.inr (va_up (va_up (va_up (va_up (va_up (va_up (fun _ => none) 0 (some q2)) 1 (some q5)) 2 (some q8)) 3 (some q11)) 4 (some q14)) 5 (some q17))))))) :: (a, .inr (6, [.ref q1, .int 0, .int 0])) :: (blC g u18 ++ ((blC g u15 ++ ((blC g u12 ++ ((blC g u9 ++ ((blC g u6 ++ ((blC g u3 ++ (X))))))))))))) H locs := hI
  refine lv_dup C0.1 C0.2.1 dX4_init_29 rfl ?_
  refine n_call (hot := [(q1, .inl (g.2.1 3, 11, .inr (.inr (.inr (.inr (va_up (va_up (va_up (va_up (va_up (va_up (fun _ => none) 0 (some q2)) 1 (some q5)) 2 (some q8)) 3 (some q11)) 4 (some q14)) 5 (some q17))))))), (a, .inr (6, [.ref q1, .int 0, .int 0]))]) (Rr := ((blC g u18 ++ ((blC g u15 ++ ((blC g u12 ++ ((blC g u9 ++ ((blC g u6 ++ ((blC g u3 ++ (X)))))))))))))) (e0 := (q20, .inr (5, [.null, .null, .int 0]))) hC hI (n_IN (As := []) C0 hC hI (cc_X3_init l g ((q1, .inl (g.2.1 3, 11, .inr (.inr (.inr (.inr (va_up (va_up (va_up (va_up (va_up (va_up (fun _ => none) 0 (some q2)) 1 (some q5)) 2 (some q8)) 3 (some q11)) 4 (some q14)) 5 (some q17))))))) :: (a, .inr (6, [.ref q1, .int 0, .int 0])) :: (blC g u18 ++ ((blC g u15 ++ ((blC g u12 ++ ((blC g u9 ++ ((blC g u6 ++ ((blC g u3 ++ (X))))))))))))) H.size q20) 6 rfl w_277 w_77 w_278 rfl ⟨rfl, rfl⟩ hd_X3_init ⟨Nat.le_of_ble_eq_true rfl, Nat.le_of_ble_eq_true rfl⟩ rfl hl.1 rfl (Nat.le_of_ble_eq_true rfl) dX4_init_30 ⟨Nat.le_of_ble_eq_true rfl, Nat.le_of_ble_eq_true rfl⟩) (fun u21 H locs hu22 hI => ?_)
  have hI : KI g _ s ((q1, .inl (g.2.1 3, 11, .inr (.inr (.inr (.inr (va_up (va_up (va_up (va_up (va_up (va_up (fun _ => none) 0 (some q2)) 1 (some q5)) 2 (some q8)) 3 (some q11)) 4 (some q14)) 5 (some q17))))))) :: (a, .inr (6, [.ref q1, .int 0, .int 0])) :: (blC g u21 ++ ((blC g u18 ++ ((blC g u15 ++ ((blC g u12 ++ ((blC g u9 ++ ((blC g u6 ++ ((blC g u3 ++ (X))))))))))))))) H locs := hI
  have hv9 : ((q1, .inl (g.2.1 3, 11, .inr (.inr (.inr (.inr (va_up (va_up (va_up (va_up (va_up (va_up (fun _ => none) 0 (some q2)) 1 (some q5)) 2 (some q8)) 3 (some q11)) 4 (some q14)) 5 (some q17))))))) :: (a, .inr (6, [.ref q1, .int 0, .int 0])) :: (blC g u21 ++ ((blC g u18 ++ ((blC g u15 ++ ((blC g u12 ++ ((blC g u9 ++ ((blC g u6 ++ ((blC g u3 ++ (X)))))))))))))))[3]? = some (q20, .inr (5, fC g u21 0 z0)) := by rw [← hu22]; rfl
  refine n_aast C0 hC hI 0 3 3 5 rfl rfl hv9 rfl (by decide) dX4_init_33 (fun H locs hI => ?_)
  rw [ixl_6] at hI
  have hI : KI g _ s ((q1, .inl (g.2.1 3, 11, .inr (.inr (.inr (.inr (va_up (va_up (va_up (va_up (va_up (va_up (va_up (fun _ => none) 0 (some q2)) 1 (some q5)) 2 (some q8)) 3 (some q11)) 4 (some q14)) 5 (some q17)) 6 (some q20))))))) :: (a, .inr (6, [.ref q1, .int 0, .int 0])) :: (blC g u21 ++ ((blC g u18 ++ ((blC g u15 ++ ((blC g u12 ++ ((blC g u9 ++ ((blC g u6 ++ ((blC g u3 ++ (X))))))))))))))) H locs := hI
  refine lv_iinc (v := 7) (lv' := [(1, .int 7), (0, .ref a)]) C0.1 C0.2.1 dX4_init_34 hl (k := 0) rfl (by decide) (by decide) rfl (fun ls hl => ?_)
  refine lv_goto (tgt := 15) C0.1 C0.2.1 dX4_init_37 (by decide) ?_
  refine lv_iload_n C0.1 C0.2.1 dX4_init_15 rfl (lv_at hl 0 rfl) ?_
  refine lv_bipush (v := 11) C0.1 C0.2.1 dX4_init_16 (by decide) ?_
  refine lv_icmp_ge (tgt := 40) C0.1 C0.2.1 dX4_init_18 (by decide) (fun z => absurd z (by decide)) (fun _ => ?_)
  refine lv_aload_n C0.1 C0.2.1 dX4_init_21 rfl (lv_at hl 1 rfl) ?_
  refine n_get (C := RX4) (T := TX4) (N := 3) (ci := 6) C0 hC hI iX4 1 rfl rfl 0 (by decide) rfl w_296 dX4_init_22 ?_
  refine lv_iload_n C0.1 C0.2.1 dX4_init_25 rfl (lv_at hl 0 rfl) ?_
  refine n_new (C := RX3) (T := TX3) (N := 3) (ci := 5) C0 hC hI iX3 tyX3 tyX3_ok w_273 w_275 w_77 rfl fr_RX3 (Nat.le_of_ble_eq_true rfl) (Nat.le_of_ble_eq_true rfl) dX4_init_26 (fun q23 H hI => ?_)
  have hI : KI g _ s ((q23, .inr (5, [.null, .null, .int 0])) :: (q1, .inl (g.2.1 3, 11, .inr (.inr (.inr (.inr (va_up (va_up (va_up (va_up (va_up (va_up (va_up (fun _ => none) 0 (some q2)) 1 (some q5)) 2 (some q8)) 3 (some q11)) 4 (some q14)) 5 (some q17)) 6 (some q20))))))) :: (a, .inr (6, [.ref q1, .int 0, .int 0])) :: (blC g u21 ++ ((blC g u18 ++ ((blC g u15 ++ ((blC g u12 ++ ((blC g u9 ++ ((blC g u6 ++ ((blC g u3 ++ (X))))))))))))))) H locs := hI
  refine lv_dup C0.1 C0.2.1 dX4_init_29 rfl ?_
  refine n_call (hot := [(q1, .inl (g.2.1 3, 11, .inr (.inr (.inr (.inr (va_up (va_up (va_up (va_up (va_up (va_up (va_up (fun _ => none) 0 (some q2)) 1 (some q5)) 2 (some q8)) 3 (some q11)) 4 (some q14)) 5 (some q17)) 6 (some q20))))))), (a, .inr (6, [.ref q1, .int 0, .int 0]))]) (Rr := ((blC g u21 ++ ((blC g u18 ++ ((blC g u15 ++ ((blC g u12 ++ ((blC g u9 ++ ((blC g u6 ++ ((blC g u3 ++ (X)))))))))))))))) (e0 := (q23, .inr (5, [.null, .null, .int 0]))) hC hI (n_IN (As := []) C0 hC hI (cc_X3_init l g ((q1, .inl (g.2.1 3, 11, .inr (.inr (.inr (.inr (va_up (va_up (va_up (va_up (va_up (va_up (va_up (fun _ => none) 0 (some q2)) 1 (some q5)) 2 (some q8)) 3 (some q11)) 4 (some q14)) 5 (some q17)) 6 (some q20))))))) :: (a, .inr (6, [.ref q1, .int 0, .int 0])) :: (blC g u21 ++ ((blC g u18 ++ ((blC g u15 ++ ((blC g u12 ++ ((blC g u9 ++ ((blC g u6 ++ ((blC g u3 ++ (X))))))))))))))) H.size q23) 6 rfl w_277 w_77 w_278 rfl ⟨rfl, rfl⟩ hd_X3_init ⟨Nat.le_of_ble_eq_true rfl, Nat.le_of_ble_eq_true rfl⟩ rfl hl.1 rfl (Nat.le_of_ble_eq_true rfl) dX4_init_30 ⟨Nat.le_of_ble_eq_true rfl, Nat.le_of_ble_eq_true rfl⟩) (fun u24 H locs hu25 hI => ?_)
  have hI : KI g _ s ((q1, .inl (g.2.1 3, 11, .inr (.inr (.inr (.inr (va_up (va_up (va_up (va_up (va_up (va_up (va_up (fun _ => none) 0 (some q2)) 1 (some q5)) 2 (some q8)) 3 (some q11)) 4 (some q14)) 5 (some q17)) 6 (some q20))))))) :: (a, .inr (6, [.ref q1, .int 0, .int 0])) :: (blC g u24 ++ ((blC g u21 ++ ((blC g u18 ++ ((blC g u15 ++ ((blC g u12 ++ ((blC g u9 ++ ((blC g u6 ++ ((blC g u3 ++ (X))))))))))))))))) H locs := hI
  have hv9 : ((q1, .inl (g.2.1 3, 11, .inr (.inr (.inr (.inr (va_up (va_up (va_up (va_up (va_up (va_up (va_up (fun _ => none) 0 (some q2)) 1 (some q5)) 2 (some q8)) 3 (some q11)) 4 (some q14)) 5 (some q17)) 6 (some q20))))))) :: (a, .inr (6, [.ref q1, .int 0, .int 0])) :: (blC g u24 ++ ((blC g u21 ++ ((blC g u18 ++ ((blC g u15 ++ ((blC g u12 ++ ((blC g u9 ++ ((blC g u6 ++ ((blC g u3 ++ (X)))))))))))))))))[3]? = some (q23, .inr (5, fC g u24 0 z0)) := by rw [← hu25]; rfl
  refine n_aast C0 hC hI 0 3 3 5 rfl rfl hv9 rfl (by decide) dX4_init_33 (fun H locs hI => ?_)
  rw [ixl_7] at hI
  have hI : KI g _ s ((q1, .inl (g.2.1 3, 11, .inr (.inr (.inr (.inr (va_up (va_up (va_up (va_up (va_up (va_up (va_up (va_up (fun _ => none) 0 (some q2)) 1 (some q5)) 2 (some q8)) 3 (some q11)) 4 (some q14)) 5 (some q17)) 6 (some q20)) 7 (some q23))))))) :: (a, .inr (6, [.ref q1, .int 0, .int 0])) :: (blC g u24 ++ ((blC g u21 ++ ((blC g u18 ++ ((blC g u15 ++ ((blC g u12 ++ ((blC g u9 ++ ((blC g u6 ++ ((blC g u3 ++ (X))))))))))))))))) H locs := hI
  refine lv_iinc (v := 8) (lv' := [(1, .int 8), (0, .ref a)]) C0.1 C0.2.1 dX4_init_34 hl (k := 0) rfl (by decide) (by decide) rfl (fun ls hl => ?_)
  refine lv_goto (tgt := 15) C0.1 C0.2.1 dX4_init_37 (by decide) ?_
  refine lv_iload_n C0.1 C0.2.1 dX4_init_15 rfl (lv_at hl 0 rfl) ?_
  refine lv_bipush (v := 11) C0.1 C0.2.1 dX4_init_16 (by decide) ?_
  refine lv_icmp_ge (tgt := 40) C0.1 C0.2.1 dX4_init_18 (by decide) (fun z => absurd z (by decide)) (fun _ => ?_)
  refine lv_aload_n C0.1 C0.2.1 dX4_init_21 rfl (lv_at hl 1 rfl) ?_
  refine n_get (C := RX4) (T := TX4) (N := 3) (ci := 6) C0 hC hI iX4 1 rfl rfl 0 (by decide) rfl w_296 dX4_init_22 ?_
  refine lv_iload_n C0.1 C0.2.1 dX4_init_25 rfl (lv_at hl 0 rfl) ?_
  refine n_new (C := RX3) (T := TX3) (N := 3) (ci := 5) C0 hC hI iX3 tyX3 tyX3_ok w_273 w_275 w_77 rfl fr_RX3 (Nat.le_of_ble_eq_true rfl) (Nat.le_of_ble_eq_true rfl) dX4_init_26 (fun q26 H hI => ?_)
  have hI : KI g _ s ((q26, .inr (5, [.null, .null, .int 0])) :: (q1, .inl (g.2.1 3, 11, .inr (.inr (.inr (.inr (va_up (va_up (va_up (va_up (va_up (va_up (va_up (va_up (fun _ => none) 0 (some q2)) 1 (some q5)) 2 (some q8)) 3 (some q11)) 4 (some q14)) 5 (some q17)) 6 (some q20)) 7 (some q23))))))) :: (a, .inr (6, [.ref q1, .int 0, .int 0])) :: (blC g u24 ++ ((blC g u21 ++ ((blC g u18 ++ ((blC g u15 ++ ((blC g u12 ++ ((blC g u9 ++ ((blC g u6 ++ ((blC g u3 ++ (X))))))))))))))))) H locs := hI
  refine lv_dup C0.1 C0.2.1 dX4_init_29 rfl ?_
  refine n_call (hot := [(q1, .inl (g.2.1 3, 11, .inr (.inr (.inr (.inr (va_up (va_up (va_up (va_up (va_up (va_up (va_up (va_up (fun _ => none) 0 (some q2)) 1 (some q5)) 2 (some q8)) 3 (some q11)) 4 (some q14)) 5 (some q17)) 6 (some q20)) 7 (some q23))))))), (a, .inr (6, [.ref q1, .int 0, .int 0]))]) (Rr := ((blC g u24 ++ ((blC g u21 ++ ((blC g u18 ++ ((blC g u15 ++ ((blC g u12 ++ ((blC g u9 ++ ((blC g u6 ++ ((blC g u3 ++ (X)))))))))))))))))) (e0 := (q26, .inr (5, [.null, .null, .int 0]))) hC hI (n_IN (As := []) C0 hC hI (cc_X3_init l g ((q1, .inl (g.2.1 3, 11, .inr (.inr (.inr (.inr (va_up (va_up (va_up (va_up (va_up (va_up (va_up (va_up (fun _ => none) 0 (some q2)) 1 (some q5)) 2 (some q8)) 3 (some q11)) 4 (some q14)) 5 (some q17)) 6 (some q20)) 7 (some q23))))))) :: (a, .inr (6, [.ref q1, .int 0, .int 0])) :: (blC g u24 ++ ((blC g u21 ++ ((blC g u18 ++ ((blC g u15 ++ ((blC g u12 ++ ((blC g u9 ++ ((blC g u6 ++ ((blC g u3 ++ (X))))))))))))))))) H.size q26) 6 rfl w_277 w_77 w_278 rfl ⟨rfl, rfl⟩ hd_X3_init ⟨Nat.le_of_ble_eq_true rfl, Nat.le_of_ble_eq_true rfl⟩ rfl hl.1 rfl (Nat.le_of_ble_eq_true rfl) dX4_init_30 ⟨Nat.le_of_ble_eq_true rfl, Nat.le_of_ble_eq_true rfl⟩) (fun u27 H locs hu28 hI => ?_)
  have hI : KI g _ s ((q1, .inl (g.2.1 3, 11, .inr (.inr (.inr (.inr (va_up (va_up (va_up (va_up (va_up (va_up (va_up (va_up (fun _ => none) 0 (some q2)) 1 (some q5)) 2 (some q8)) 3 (some q11)) 4 (some q14)) 5 (some q17)) 6 (some q20)) 7 (some q23))))))) :: (a, .inr (6, [.ref q1, .int 0, .int 0])) :: (blC g u27 ++ ((blC g u24 ++ ((blC g u21 ++ ((blC g u18 ++ ((blC g u15 ++ ((blC g u12 ++ ((blC g u9 ++ ((blC g u6 ++ ((blC g u3 ++ (X))))))))))))))))))) H locs := hI
  have hv9 : ((q1, .inl (g.2.1 3, 11, .inr (.inr (.inr (.inr (va_up (va_up (va_up (va_up (va_up (va_up (va_up (va_up (fun _ => none) 0 (some q2)) 1 (some q5)) 2 (some q8)) 3 (some q11)) 4 (some q14)) 5 (some q17)) 6 (some q20)) 7 (some q23))))))) :: (a, .inr (6, [.ref q1, .int 0, .int 0])) :: (blC g u27 ++ ((blC g u24 ++ ((blC g u21 ++ ((blC g u18 ++ ((blC g u15 ++ ((blC g u12 ++ ((blC g u9 ++ ((blC g u6 ++ ((blC g u3 ++ (X)))))))))))))))))))[3]? = some (q26, .inr (5, fC g u27 0 z0)) := by rw [← hu28]; rfl
  refine n_aast C0 hC hI 0 3 3 5 rfl rfl hv9 rfl (by decide) dX4_init_33 (fun H locs hI => ?_)
  rw [ixl_8] at hI
  have hI : KI g _ s ((q1, .inl (g.2.1 3, 11, .inr (.inr (.inr (.inr (va_up (va_up (va_up (va_up (va_up (va_up (va_up (va_up (va_up (fun _ => none) 0 (some q2)) 1 (some q5)) 2 (some q8)) 3 (some q11)) 4 (some q14)) 5 (some q17)) 6 (some q20)) 7 (some q23)) 8 (some q26))))))) :: (a, .inr (6, [.ref q1, .int 0, .int 0])) :: (blC g u27 ++ ((blC g u24 ++ ((blC g u21 ++ ((blC g u18 ++ ((blC g u15 ++ ((blC g u12 ++ ((blC g u9 ++ ((blC g u6 ++ ((blC g u3 ++ (X))))))))))))))))))) H locs := hI
  refine lv_iinc (v := 9) (lv' := [(1, .int 9), (0, .ref a)]) C0.1 C0.2.1 dX4_init_34 hl (k := 0) rfl (by decide) (by decide) rfl (fun ls hl => ?_)
  refine lv_goto (tgt := 15) C0.1 C0.2.1 dX4_init_37 (by decide) ?_
  refine lv_iload_n C0.1 C0.2.1 dX4_init_15 rfl (lv_at hl 0 rfl) ?_
  refine lv_bipush (v := 11) C0.1 C0.2.1 dX4_init_16 (by decide) ?_
  refine lv_icmp_ge (tgt := 40) C0.1 C0.2.1 dX4_init_18 (by decide) (fun z => absurd z (by decide)) (fun _ => ?_)
  refine lv_aload_n C0.1 C0.2.1 dX4_init_21 rfl (lv_at hl 1 rfl) ?_
  refine n_get (C := RX4) (T := TX4) (N := 3) (ci := 6) C0 hC hI iX4 1 rfl rfl 0 (by decide) rfl w_296 dX4_init_22 ?_
  refine lv_iload_n C0.1 C0.2.1 dX4_init_25 rfl (lv_at hl 0 rfl) ?_
  refine n_new (C := RX3) (T := TX3) (N := 3) (ci := 5) C0 hC hI iX3 tyX3 tyX3_ok w_273 w_275 w_77 rfl fr_RX3 (Nat.le_of_ble_eq_true rfl) (Nat.le_of_ble_eq_true rfl) dX4_init_26 (fun q29 H hI => ?_)
  have hI : KI g _ s ((q29, .inr (5, [.null, .null, .int 0])) :: (q1, .inl (g.2.1 3, 11, .inr (.inr (.inr (.inr (va_up (va_up (va_up (va_up (va_up (va_up (va_up (va_up (va_up (fun _ => none) 0 (some q2)) 1 (some q5)) 2 (some q8)) 3 (some q11)) 4 (some q14)) 5 (some q17)) 6 (some q20)) 7 (some q23)) 8 (some q26))))))) :: (a, .inr (6, [.ref q1, .int 0, .int 0])) :: (blC g u27 ++ ((blC g u24 ++ ((blC g u21 ++ ((blC g u18 ++ ((blC g u15 ++ ((blC g u12 ++ ((blC g u9 ++ ((blC g u6 ++ ((blC g u3 ++ (X))))))))))))))))))) H locs := hI
  refine lv_dup C0.1 C0.2.1 dX4_init_29 rfl ?_
  refine n_call (hot := [(q1, .inl (g.2.1 3, 11, .inr (.inr (.inr (.inr (va_up (va_up (va_up (va_up (va_up (va_up (va_up (va_up (va_up (fun _ => none) 0 (some q2)) 1 (some q5)) 2 (some q8)) 3 (some q11)) 4 (some q14)) 5 (some q17)) 6 (some q20)) 7 (some q23)) 8 (some q26))))))), (a, .inr (6, [.ref q1, .int 0, .int 0]))]) (Rr := ((blC g u27 ++ ((blC g u24 ++ ((blC g u21 ++ ((blC g u18 ++ ((blC g u15 ++ ((blC g u12 ++ ((blC g u9 ++ ((blC g u6 ++ ((blC g u3 ++ (X)))))))))))))))))))) (e0 := (q29, .inr (5, [.null, .null, .int 0]))) hC hI (n_IN (As := []) C0 hC hI (cc_X3_init l g ((q1, .inl (g.2.1 3, 11, .inr (.inr (.inr (.inr (va_up (va_up (va_up (va_up (va_up (va_up (va_up (va_up (va_up (fun _ => none) 0 (some q2)) 1 (some q5)) 2 (some q8)) 3 (some q11)) 4 (some q14)) 5 (some q17)) 6 (some q20)) 7 (some q23)) 8 (some q26))))))) :: (a, .inr (6, [.ref q1, .int 0, .int 0])) :: (blC g u27 ++ ((blC g u24 ++ ((blC g u21 ++ ((blC g u18 ++ ((blC g u15 ++ ((blC g u12 ++ ((blC g u9 ++ ((blC g u6 ++ ((blC g u3 ++ (X))))))))))))))))))) H.size q29) 6 rfl w_277 w_77 w_278 rfl ⟨rfl, rfl⟩ hd_X3_init ⟨Nat.le_of_ble_eq_true rfl, Nat.le_of_ble_eq_true rfl⟩ rfl hl.1 rfl (Nat.le_of_ble_eq_true rfl) dX4_init_30 ⟨Nat.le_of_ble_eq_true rfl, Nat.le_of_ble_eq_true rfl⟩) (fun u30 H locs hu31 hI => ?_)
  have hI : KI g _ s ((q1, .inl (g.2.1 3, 11, .inr (.inr (.inr (.inr (va_up (va_up (va_up (va_up (va_up (va_up (va_up (va_up (va_up (fun _ => none) 0 (some q2)) 1 (some q5)) 2 (some q8)) 3 (some q11)) 4 (some q14)) 5 (some q17)) 6 (some q20)) 7 (some q23)) 8 (some q26))))))) :: (a, .inr (6, [.ref q1, .int 0, .int 0])) :: (blC g u30 ++ ((blC g u27 ++ ((blC g u24 ++ ((blC g u21 ++ ((blC g u18 ++ ((blC g u15 ++ ((blC g u12 ++ ((blC g u9 ++ ((blC g u6 ++ ((blC g u3 ++ (X))))))))))))))))))))) H locs := hI
  have hv9 : ((q1, .inl (g.2.1 3, 11, .inr (.inr (.inr (.inr (va_up (va_up (va_up (va_up (va_up (va_up (va_up (va_up (va_up (fun _ => none) 0 (some q2)) 1 (some q5)) 2 (some q8)) 3 (some q11)) 4 (some q14)) 5 (some q17)) 6 (some q20)) 7 (some q23)) 8 (some q26))))))) :: (a, .inr (6, [.ref q1, .int 0, .int 0])) :: (blC g u30 ++ ((blC g u27 ++ ((blC g u24 ++ ((blC g u21 ++ ((blC g u18 ++ ((blC g u15 ++ ((blC g u12 ++ ((blC g u9 ++ ((blC g u6 ++ ((blC g u3 ++ (X)))))))))))))))))))))[3]? = some (q29, .inr (5, fC g u30 0 z0)) := by rw [← hu31]; rfl
  refine n_aast C0 hC hI 0 3 3 5 rfl rfl hv9 rfl (by decide) dX4_init_33 (fun H locs hI => ?_)
  rw [ixl_9] at hI
  have hI : KI g _ s ((q1, .inl (g.2.1 3, 11, .inr (.inr (.inr (.inr (va_up (va_up (va_up (va_up (va_up (va_up (va_up (va_up (va_up (va_up (fun _ => none) 0 (some q2)) 1 (some q5)) 2 (some q8)) 3 (some q11)) 4 (some q14)) 5 (some q17)) 6 (some q20)) 7 (some q23)) 8 (some q26)) 9 (some q29))))))) :: (a, .inr (6, [.ref q1, .int 0, .int 0])) :: (blC g u30 ++ ((blC g u27 ++ ((blC g u24 ++ ((blC g u21 ++ ((blC g u18 ++ ((blC g u15 ++ ((blC g u12 ++ ((blC g u9 ++ ((blC g u6 ++ ((blC g u3 ++ (X))))))))))))))))))))) H locs := hI
  refine lv_iinc (v := 10) (lv' := [(1, .int 10), (0, .ref a)]) C0.1 C0.2.1 dX4_init_34 hl (k := 0) rfl (by decide) (by decide) rfl (fun ls hl => ?_)
  refine lv_goto (tgt := 15) C0.1 C0.2.1 dX4_init_37 (by decide) ?_
  refine lv_iload_n C0.1 C0.2.1 dX4_init_15 rfl (lv_at hl 0 rfl) ?_
  refine lv_bipush (v := 11) C0.1 C0.2.1 dX4_init_16 (by decide) ?_
  refine lv_icmp_ge (tgt := 40) C0.1 C0.2.1 dX4_init_18 (by decide) (fun z => absurd z (by decide)) (fun _ => ?_)
  refine lv_aload_n C0.1 C0.2.1 dX4_init_21 rfl (lv_at hl 1 rfl) ?_
  refine n_get (C := RX4) (T := TX4) (N := 3) (ci := 6) C0 hC hI iX4 1 rfl rfl 0 (by decide) rfl w_296 dX4_init_22 ?_
  refine lv_iload_n C0.1 C0.2.1 dX4_init_25 rfl (lv_at hl 0 rfl) ?_
  refine n_new (C := RX3) (T := TX3) (N := 3) (ci := 5) C0 hC hI iX3 tyX3 tyX3_ok w_273 w_275 w_77 rfl fr_RX3 (Nat.le_of_ble_eq_true rfl) (Nat.le_of_ble_eq_true rfl) dX4_init_26 (fun q32 H hI => ?_)
  have hI : KI g _ s ((q32, .inr (5, [.null, .null, .int 0])) :: (q1, .inl (g.2.1 3, 11, .inr (.inr (.inr (.inr (va_up (va_up (va_up (va_up (va_up (va_up (va_up (va_up (va_up (va_up (fun _ => none) 0 (some q2)) 1 (some q5)) 2 (some q8)) 3 (some q11)) 4 (some q14)) 5 (some q17)) 6 (some q20)) 7 (some q23)) 8 (some q26)) 9 (some q29))))))) :: (a, .inr (6, [.ref q1, .int 0, .int 0])) :: (blC g u30 ++ ((blC g u27 ++ ((blC g u24 ++ ((blC g u21 ++ ((blC g u18 ++ ((blC g u15 ++ ((blC g u12 ++ ((blC g u9 ++ ((blC g u6 ++ ((blC g u3 ++ (X))))))))))))))))))))) H locs := hI
  refine lv_dup C0.1 C0.2.1 dX4_init_29 rfl ?_
  refine n_call (hot := [(q1, .inl (g.2.1 3, 11, .inr (.inr (.inr (.inr (va_up (va_up (va_up (va_up (va_up (va_up (va_up (va_up (va_up (va_up (fun _ => none) 0 (some q2)) 1 (some q5)) 2 (some q8)) 3 (some q11)) 4 (some q14)) 5 (some q17)) 6 (some q20)) 7 (some q23)) 8 (some q26)) 9 (some q29))))))), (a, .inr (6, [.ref q1, .int 0, .int 0]))]) (Rr := ((blC g u30 ++ ((blC g u27 ++ ((blC g u24 ++ ((blC g u21 ++ ((blC g u18 ++ ((blC g u15 ++ ((blC g u12 ++ ((blC g u9 ++ ((blC g u6 ++ ((blC g u3 ++ (X)))))))))))))))))))))) (e0 := (q32, .inr (5, [.null, .null, .int 0]))) hC hI (n_IN (As := []) C0 hC hI (cc_X3_init l g ((q1, .inl (g.2.1 3, 11, .inr (.inr (.inr (.inr (va_up (va_up (va_up (va_up (va_up (va_up (va_up (va_up (va_up (va_up (fun _ => none) 0 (some q2)) 1 (some q5)) 2 (some q8)) 3 (some q11)) 4 (some q14)) 5 (some q17)) 6 (some q20)) 7 (some q23)) 8 (some q26)) 9 (some q29))))))) :: (a, .inr (6, [.ref q1, .int 0, .int 0])) :: (blC g u30 ++ ((blC g u27 ++ ((blC g u24 ++ ((blC g u21 ++ ((blC g u18 ++ ((blC g u15 ++ ((blC g u12 ++ ((blC g u9 ++ ((blC g u6 ++ ((blC g u3 ++ (X))))))))))))))))))))) H.size q32) 6 rfl w_277 w_77 w_278 rfl ⟨rfl, rfl⟩ hd_X3_init ⟨Nat.le_of_ble_eq_true rfl, Nat.le_of_ble_eq_true rfl⟩ rfl hl.1 rfl (Nat.le_of_ble_eq_true rfl) dX4_init_30 ⟨Nat.le_of_ble_eq_true rfl, Nat.le_of_ble_eq_true rfl⟩) (fun u33 H locs hu34 hI => ?_)
  have hI : KI g _ s ((q1, .inl (g.2.1 3, 11, .inr (.inr (.inr (.inr (va_up (va_up (va_up (va_up (va_up (va_up (va_up (va_up (va_up (va_up (fun _ => none) 0 (some q2)) 1 (some q5)) 2 (some q8)) 3 (some q11)) 4 (some q14)) 5 (some q17)) 6 (some q20)) 7 (some q23)) 8 (some q26)) 9 (some q29))))))) :: (a, .inr (6, [.ref q1, .int 0, .int 0])) :: (blC g u33 ++ ((blC g u30 ++ ((blC g u27 ++ ((blC g u24 ++ ((blC g u21 ++ ((blC g u18 ++ ((blC g u15 ++ ((blC g u12 ++ ((blC g u9 ++ ((blC g u6 ++ ((blC g u3 ++ (X))))))))))))))))))))))) H locs := hI
  have hv9 : ((q1, .inl (g.2.1 3, 11, .inr (.inr (.inr (.inr (va_up (va_up (va_up (va_up (va_up (va_up (va_up (va_up (va_up (va_up (fun _ => none) 0 (some q2)) 1 (some q5)) 2 (some q8)) 3 (some q11)) 4 (some q14)) 5 (some q17)) 6 (some q20)) 7 (some q23)) 8 (some q26)) 9 (some q29))))))) :: (a, .inr (6, [.ref q1, .int 0, .int 0])) :: (blC g u33 ++ ((blC g u30 ++ ((blC g u27 ++ ((blC g u24 ++ ((blC g u21 ++ ((blC g u18 ++ ((blC g u15 ++ ((blC g u12 ++ ((blC g u9 ++ ((blC g u6 ++ ((blC g u3 ++ (X)))))))))))))))))))))))[3]? = some (q32, .inr (5, fC g u33 0 z0)) := by rw [← hu34]; rfl
  refine n_aast C0 hC hI 0 3 3 5 rfl rfl hv9 rfl (by decide) dX4_init_33 (fun H locs hI => ?_)
  rw [ixl_10] at hI
  have hI : KI g _ s ((q1, .inl (g.2.1 3, 11, .inr (.inr (.inr (.inr (va_up (va_up (va_up (va_up (va_up (va_up (va_up (va_up (va_up (va_up (va_up (fun _ => none) 0 (some q2)) 1 (some q5)) 2 (some q8)) 3 (some q11)) 4 (some q14)) 5 (some q17)) 6 (some q20)) 7 (some q23)) 8 (some q26)) 9 (some q29)) 10 (some q32))))))) :: (a, .inr (6, [.ref q1, .int 0, .int 0])) :: (blC g u33 ++ ((blC g u30 ++ ((blC g u27 ++ ((blC g u24 ++ ((blC g u21 ++ ((blC g u18 ++ ((blC g u15 ++ ((blC g u12 ++ ((blC g u9 ++ ((blC g u6 ++ ((blC g u3 ++ (X))))))))))))))))))))))) H locs := hI
  refine lv_iinc (v := 11) (lv' := [(1, .int 11), (0, .ref a)]) C0.1 C0.2.1 dX4_init_34 hl (k := 0) rfl (by decide) (by decide) rfl (fun ls hl => ?_)
  refine lv_goto (tgt := 15) C0.1 C0.2.1 dX4_init_37 (by decide) ?_
  refine lv_iload_n C0.1 C0.2.1 dX4_init_15 rfl (lv_at hl 0 rfl) ?_
  refine lv_bipush (v := 11) C0.1 C0.2.1 dX4_init_16 (by decide) ?_
  refine lv_icmp_ge (tgt := 40) C0.1 C0.2.1 dX4_init_18 (by decide) (fun _ => ?_) (fun z => absurd (by decide) z)
  subst hu4
  subst hu7
  subst hu10
  subst hu13
  subst hu16
  subst hu19
  subst hu22
  subst hu25
  subst hu28
  subst hu31
  subst hu34
  exact n_end C0 hI hr hlocks ((fun j => [a, q1].getD j 0), fun i => [u3, u6, u9, u12, u15, u18, u21, u24, u27, u30, u33].getD i (fun _ => 0)) rfl (by simp only [blR, List.append_assoc, List.cons_append, List.nil_append]; rfl) dX4_init_40

theorem hd_J5_init_d00df : yJ5_init_d00df.cls ≠ "java/lang/invoke/MethodHandle" ∧ yJ5_init_d00df.cls ≠ "java/lang/invoke/VarHandle" ∧ (parseMethodDescriptor yJ5_init_d00df.desc).map (fun d => d.parameters.length) = some 1 := ⟨by decide +kernel, by decide +kernel, by decide +kernel⟩
set_option maxHeartbeats 8000000 in
set_option maxRecDepth 100000 in
theorem cc_J5_init_d00df (l : Launch) (g : GG) (X : va_W) (sz a : Nat) : Met l yJ5_init_d00df (.code yJ5_init_d00df cJ5_init_d00df 2 none :: LWg) (rmD 1 1 16) (va_Pc [.ref a, .int 16] (PreC g ((a, .inr (1, [.null, .int 0, .int 0, .int 0])) :: X) sz)) (QC g X ((a, .inr (1, [.null, .int 0, .int 0, .int 0])) :: X) sz (fun u : Nat → Nat => u 0 = a) (fun u => blS g u)) 1 16 (AA ((a, .inr (1, [.null, .int 0, .int 0, .int 0])) :: X) b00 0 sz) := by
  refine metC_go (by decide +kernel) rfl (Nat.le_of_ble_eq_true rfl) ?_
  intro p e s m below meth c ls H locs C0 hC hr hlocks hnm hsz hl hI
  subst hsz
  have hl : lv_has ls 2 [(0, .ref a), (1, .int 16)] := hl
  refine lv_aload_n C0.1 C0.2.1 dJ5_init_d00df_0 rfl (lv_at hl 0 rfl) ?_
  refine n_obj C0 hl.1 w_317 dJ5_init_d00df_1 ⟨Nat.le_of_ble_eq_true rfl, Nat.le_of_ble_eq_true rfl⟩ ?_
  refine n_cs C0 hC hI w_318 dJ5_init_d00df_4 ?_
  refine lv_if_eq (tgt := 25) C0.1 C0.2.1 dJ5_init_d00df_7 (by decide) (fun z => absurd z (by decide)) (fun _ => ?_)
  refine lv_aload_n C0.1 C0.2.1 dJ5_init_d00df_10 rfl (lv_at hl 0 rfl) ?_
  refine lv_iload_n C0.1 C0.2.1 dJ5_init_d00df_11 rfl (lv_at hl 1 rfl) ?_
  refine n_newb (N' := 16) C0 hC hI (by decide) rfl (by decide) (Nat.le_of_ble_eq_true rfl) (Nat.le_of_ble_eq_true rfl) dJ5_init_d00df_12 (fun q1 H hI => ?_)
  have hI : KI g _ s ((q1, .inl (g.2.1 4, 16, .inl (fun _ => 0))) :: (a, .inr (1, [.null, .int 0, .int 0, .int 0])) :: X) H locs := hI
  refine n_put (C := RJ4) (T := TJ4) (N := 4) (ci := 1) (ty := (.array .byte)) C0 hC hI iJ4 tyJ4 tyJ4_ok nmJ4 1 rfl rfl 0 (by decide) w_327 rfl (by decide +kernel) rfl rfl (Nat.le_of_ble_eq_true rfl) dJ5_init_d00df_14 (fun H locs hI => ?_)
  have hI : KI g _ s ((q1, .inl (g.2.1 4, 16, .inl (fun _ => 0))) :: (a, .inr (1, [.ref q1, .int 0, .int 0, .int 0])) :: X) H locs := hI
  refine lv_aload_n C0.1 C0.2.1 dJ5_init_d00df_17 rfl (lv_at hl 0 rfl) ?_
  refine lv_iconst (v := 0) C0.1 C0.2.1 dJ5_init_d00df_18 (by decide) ?_
  refine n_put (C := RJ4) (T := TJ4) (N := 4) (ci := 1) (ty := .byte) C0 hC hI iJ4 tyJ4 tyJ4_ok nmJ4 1 rfl rfl 1 (by decide) w_328 rfl (by decide +kernel) rfl rfl (Nat.le_of_ble_eq_true rfl) dJ5_init_d00df_19 (fun H locs hI => ?_)
  have hI : KI g _ s ((q1, .inl (g.2.1 4, 16, .inl (fun _ => 0))) :: (a, .inr (1, [.ref q1, .int 0, .int 0, .int 0])) :: X) H locs := hI
  refine lv_goto (tgt := 38) C0.1 C0.2.1 dJ5_init_d00df_22 (by decide) ?_
  exact n_end C0 hI hr hlocks (fun j => [a, q1].getD j 0) rfl rfl dJ5_init_d00df_38

theorem hd_J4_init_da8c8 : yJ4_init_da8c8.cls ≠ "java/lang/invoke/MethodHandle" ∧ yJ4_init_da8c8.cls ≠ "java/lang/invoke/VarHandle" ∧ (parseMethodDescriptor yJ4_init_da8c8.desc).map (fun d => d.parameters.length) = some 0 := ⟨by decide +kernel, by decide +kernel, by decide +kernel⟩
set_option maxHeartbeats 8000000 in
set_option maxRecDepth 100000 in
theorem cc_J4_init_da8c8 (l : Launch) (g : GG) (X : va_W) (sz a : Nat) : Met l yJ4_init_da8c8 (.code yJ4_init_da8c8 cJ4_init_da8c8 1 none :: LWg) (rmD 2 1 16) (va_Pc [.ref a] (PreC g ((a, .inr (1, [.null, .int 0, .int 0, .int 0])) :: X) sz)) (QC g X ((a, .inr (1, [.null, .int 0, .int 0, .int 0])) :: X) sz (fun u : Nat → Nat => u 0 = a) (fun u => blS g u)) 1 16 (AA ((a, .inr (1, [.null, .int 0, .int 0, .int 0])) :: X) b00 0 sz) := by
  refine metC_go (by decide +kernel) rfl (Nat.le_of_ble_eq_true rfl) ?_
  intro p e s m below meth c ls H locs C0 hC hr hlocks hnm hsz hl hI
  subst hsz
  have hl : lv_has ls 1 [(0, .ref a)] := hl
  refine lv_aload_n C0.1 C0.2.1 dJ4_init_da8c8_0 rfl (lv_at hl 0 rfl) ?_
  refine lv_bipush (v := 16) C0.1 C0.2.1 dJ4_init_da8c8_1 (by decide) ?_
  refine n_call (hot := []) (Rr := (X)) (e0 := (a, .inr (1, [.null, .int 0, .int 0, .int 0]))) hC hI (n_I (As := [.int 16]) C0 hC hI (cc_J5_init_d00df l g (X) H.size a) w_314 w_315 w_80 w_316 rfl ⟨rfl, rfl⟩ hd_J5_init_d00df ⟨Nat.le_of_ble_eq_true rfl, Nat.le_of_ble_eq_true rfl⟩ rfl hl.1 rfl (Nat.le_of_ble_eq_true rfl) dJ4_init_da8c8_3 ⟨Nat.le_of_ble_eq_true rfl, Nat.le_of_ble_eq_true rfl⟩) (fun u1 H locs hu2 hI => ?_)
  have hI : KI g _ s ((blS g u1 ++ (X))) H locs := hI
  subst hu2
  exact n_end C0 hI hr hlocks u1 rfl rfl dJ4_init_da8c8_6

theorem hd_X9_init : yX9_init.cls ≠ "java/lang/invoke/MethodHandle" ∧ yX9_init.cls ≠ "java/lang/invoke/VarHandle" ∧ (parseMethodDescriptor yX9_init.desc).map (fun d => d.parameters.length) = some 0 := ⟨by decide +kernel, by decide +kernel, by decide +kernel⟩
set_option maxHeartbeats 8000000 in
set_option maxRecDepth 100000 in
theorem cc_X9_init (l : Launch) (g : GG) (X : va_W) (sz a : Nat) : Met l yX9_init (.code yX9_init cX9_init 1 none :: LWg) (rmD 4 373 4116) (va_Pc [.ref a] (PreC g ((a, .inr (10, [.null, .null, .null, .int 0, .null, .null, .null, .null, .null, .int 0, .int 0])) :: X) sz)) (QC g X ((a, .inr (10, [.null, .null, .null, .int 0, .null, .null, .null, .null, .null, .int 0, .int 0])) :: X) sz (fun u : tyP => True) (fun u => blP g a u)) 373 4116 (AA ((a, .inr (10, [.null, .null, .null, .int 0, .null, .null, .null, .null, .null, .int 0, .int 0])) :: X) b00 0 sz) := by
  refine metC_go (by decide +kernel) rfl (Nat.le_of_ble_eq_true rfl) ?_
  intro p e s m below meth c ls H locs C0 hC hr hlocks hnm hsz hl hI
  subst hsz
  have hl : lv_has ls 1 [(0, .ref a)] := hl
  refine lv_aload_n C0.1 C0.2.1 dX9_init_0 rfl (lv_at hl 0 rfl) ?_
  refine n_obj C0 hl.1 w_111 dX9_init_1 ⟨Nat.le_of_ble_eq_true rfl, Nat.le_of_ble_eq_true rfl⟩ ?_
  refine lv_aload_n C0.1 C0.2.1 dX9_init_4 rfl (lv_at hl 0 rfl) ?_
  refine n_new (C := RX2) (T := TX2) (N := 12) (ci := 4) C0 hC hI iX2 tyX2 tyX2_ok w_114 w_115 w_72 rfl fr_RX2 (Nat.le_of_ble_eq_true rfl) (Nat.le_of_ble_eq_true rfl) dX9_init_5 (fun q1 H hI => ?_)
  have hI : KI g _ s ((q1, .inr (4, [.int 0, .null, .null, .null, .null, .int 0, .int 0, .null, .int 0, .null, .int 0, .int 0])) :: (a, .inr (10, [.null, .null, .null, .int 0, .null, .null, .null, .null, .null, .int 0, .int 0])) :: X) H locs := hI
  refine lv_dup C0.1 C0.2.1 dX9_init_8 rfl ?_
  refine n_call (hot := [(a, .inr (10, [.null, .null, .null, .int 0, .null, .null, .null, .null, .null, .int 0, .int 0]))]) (Rr := (X)) (e0 := (q1, .inr (4, [.int 0, .null, .null, .null, .null, .int 0, .int 0, .null, .int 0, .null, .int 0, .int 0]))) hC hI (n_IN (As := []) C0 hC hI (cc_X2_init l g ((a, .inr (10, [.null, .null, .null, .int 0, .null, .null, .null, .null, .null, .int 0, .int 0])) :: X) H.size q1) 0 rfl w_117 w_72 w_118 rfl ⟨rfl, rfl⟩ hd_X2_init ⟨Nat.le_of_ble_eq_true rfl, Nat.le_of_ble_eq_true rfl⟩ rfl hl.1 rfl (Nat.le_of_ble_eq_true rfl) dX9_init_9 ⟨Nat.le_of_ble_eq_true rfl, Nat.le_of_ble_eq_true rfl⟩) (fun u2 H locs hu3 hI => ?_)
  have hI : KI g _ s ((a, .inr (10, [.null, .null, .null, .int 0, .null, .null, .null, .null, .null, .int 0, .int 0])) :: (blA g u2 ++ (X))) H locs := hI
  refine n_putF (C := RX9) (T := TX9) (N := 11) (ci := 10) (ty := (.object "FrogParliament$Assembly")) C0 hC hI hnm iX9 tyX9 tyX9_ok nmX9 0 rfl rfl 0 (by decide) w_342 rfl rfl (by decide +kernel) rfl rfl (Nat.le_of_ble_eq_true rfl) dX9_init_12 (fun H locs hI => ?_)
  have hI : KI g _ s ((a, .inr (10, [.ref q1, .null, .null, .int 0, .null, .null, .null, .null, .null, .int 0, .int 0])) :: (blA g u2 ++ (X))) H locs := hI
  refine lv_aload_n C0.1 C0.2.1 dX9_init_15 rfl (lv_at hl 0 rfl) ?_
  refine n_new (C := RX2) (T := TX2) (N := 12) (ci := 4) C0 hC hI iX2 tyX2 tyX2_ok w_114 w_115 w_72 rfl fr_RX2 (Nat.le_of_ble_eq_true rfl) (Nat.le_of_ble_eq_true rfl) dX9_init_16 (fun q4 H hI => ?_)
  have hI : KI g _ s ((q4, .inr (4, [.int 0, .null, .null, .null, .null, .int 0, .int 0, .null, .int 0, .null, .int 0, .int 0])) :: (a, .inr (10, [.ref q1, .null, .null, .int 0, .null, .null, .null, .null, .null, .int 0, .int 0])) :: (blA g u2 ++ (X))) H locs := hI
  refine lv_dup C0.1 C0.2.1 dX9_init_19 rfl ?_
  refine n_call (hot := [(a, .inr (10, [.ref q1, .null, .null, .int 0, .null, .null, .null, .null, .null, .int 0, .int 0]))]) (Rr := ((blA g u2 ++ (X)))) (e0 := (q4, .inr (4, [.int 0, .null, .null, .null, .null, .int 0, .int 0, .null, .int 0, .null, .int 0, .int 0]))) hC hI (n_IN (As := []) C0 hC hI (cc_X2_init l g ((a, .inr (10, [.ref q1, .null, .null, .int 0, .null, .null, .null, .null, .null, .int 0, .int 0])) :: (blA g u2 ++ (X))) H.size q4) 0 rfl w_117 w_72 w_118 rfl ⟨rfl, rfl⟩ hd_X2_init ⟨Nat.le_of_ble_eq_true rfl, Nat.le_of_ble_eq_true rfl⟩ rfl hl.1 rfl (Nat.le_of_ble_eq_true rfl) dX9_init_20 ⟨Nat.le_of_ble_eq_true rfl, Nat.le_of_ble_eq_true rfl⟩) (fun u5 H locs hu6 hI => ?_)
  have hI : KI g _ s ((a, .inr (10, [.ref q1, .null, .null, .int 0, .null, .null, .null, .null, .null, .int 0, .int 0])) :: (blA g u5 ++ ((blA g u2 ++ (X))))) H locs := hI
  refine n_putF (C := RX9) (T := TX9) (N := 11) (ci := 10) (ty := (.object "FrogParliament$Assembly")) C0 hC hI hnm iX9 tyX9 tyX9_ok nmX9 0 rfl rfl 1 (by decide) w_343 rfl rfl (by decide +kernel) rfl rfl (Nat.le_of_ble_eq_true rfl) dX9_init_23 (fun H locs hI => ?_)
  have hI : KI g _ s ((a, .inr (10, [.ref q1, .ref q4, .null, .int 0, .null, .null, .null, .null, .null, .int 0, .int 0])) :: (blA g u5 ++ ((blA g u2 ++ (X))))) H locs := hI
  refine lv_aload_n C0.1 C0.2.1 dX9_init_26 rfl (lv_at hl 0 rfl) ?_
  refine n_new (C := RX2) (T := TX2) (N := 12) (ci := 4) C0 hC hI iX2 tyX2 tyX2_ok w_114 w_115 w_72 rfl fr_RX2 (Nat.le_of_ble_eq_true rfl) (Nat.le_of_ble_eq_true rfl) dX9_init_27 (fun q7 H hI => ?_)
  have hI : KI g _ s ((q7, .inr (4, [.int 0, .null, .null, .null, .null, .int 0, .int 0, .null, .int 0, .null, .int 0, .int 0])) :: (a, .inr (10, [.ref q1, .ref q4, .null, .int 0, .null, .null, .null, .null, .null, .int 0, .int 0])) :: (blA g u5 ++ ((blA g u2 ++ (X))))) H locs := hI
  refine lv_dup C0.1 C0.2.1 dX9_init_30 rfl ?_
  refine n_call (hot := [(a, .inr (10, [.ref q1, .ref q4, .null, .int 0, .null, .null, .null, .null, .null, .int 0, .int 0]))]) (Rr := ((blA g u5 ++ ((blA g u2 ++ (X)))))) (e0 := (q7, .inr (4, [.int 0, .null, .null, .null, .null, .int 0, .int 0, .null, .int 0, .null, .int 0, .int 0]))) hC hI (n_IN (As := []) C0 hC hI (cc_X2_init l g ((a, .inr (10, [.ref q1, .ref q4, .null, .int 0, .null, .null, .null, .null, .null, .int 0, .int 0])) :: (blA g u5 ++ ((blA g u2 ++ (X))))) H.size q7) 0 rfl w_117 w_72 w_118 rfl ⟨rfl, rfl⟩ hd_X2_init ⟨Nat.le_of_ble_eq_true rfl, Nat.le_of_ble_eq_true rfl⟩ rfl hl.1 rfl (Nat.le_of_ble_eq_true rfl) dX9_init_31 ⟨Nat.le_of_ble_eq_true rfl, Nat.le_of_ble_eq_true rfl⟩) (fun u8 H locs hu9 hI => ?_)
  have hI : KI g _ s ((a, .inr (10, [.ref q1, .ref q4, .null, .int 0, .null, .null, .null, .null, .null, .int 0, .int 0])) :: (blA g u8 ++ ((blA g u5 ++ ((blA g u2 ++ (X))))))) H locs := hI
  refine n_putF (C := RX9) (T := TX9) (N := 11) (ci := 10) (ty := (.object "FrogParliament$Assembly")) C0 hC hI hnm iX9 tyX9 tyX9_ok nmX9 0 rfl rfl 2 (by decide) w_344 rfl rfl (by decide +kernel) rfl rfl (Nat.le_of_ble_eq_true rfl) dX9_init_34 (fun H locs hI => ?_)
  have hI : KI g _ s ((a, .inr (10, [.ref q1, .ref q4, .ref q7, .int 0, .null, .null, .null, .null, .null, .int 0, .int 0])) :: (blA g u8 ++ ((blA g u5 ++ ((blA g u2 ++ (X))))))) H locs := hI
  refine lv_aload_n C0.1 C0.2.1 dX9_init_37 rfl (lv_at hl 0 rfl) ?_
  refine n_new (C := RX5) (T := TX5) (N := 3) (ci := 7) C0 hC hI iX5 tyX5 tyX5_ok w_234 w_235 w_74 rfl fr_RX5 (Nat.le_of_ble_eq_true rfl) (Nat.le_of_ble_eq_true rfl) dX9_init_38 (fun q10 H hI => ?_)
  have hI : KI g _ s ((q10, .inr (7, [.null, .int 0, .int 0])) :: (a, .inr (10, [.ref q1, .ref q4, .ref q7, .int 0, .null, .null, .null, .null, .null, .int 0, .int 0])) :: (blA g u8 ++ ((blA g u5 ++ ((blA g u2 ++ (X))))))) H locs := hI
  refine lv_dup C0.1 C0.2.1 dX9_init_41 rfl ?_
  refine n_call (hot := [(a, .inr (10, [.ref q1, .ref q4, .ref q7, .int 0, .null, .null, .null, .null, .null, .int 0, .int 0]))]) (Rr := ((blA g u8 ++ ((blA g u5 ++ ((blA g u2 ++ (X)))))))) (e0 := (q10, .inr (7, [.null, .int 0, .int 0]))) hC hI (n_IN (As := []) C0 hC hI (cc_X5_init l g ((a, .inr (10, [.ref q1, .ref q4, .ref q7, .int 0, .null, .null, .null, .null, .null, .int 0, .int 0])) :: (blA g u8 ++ ((blA g u5 ++ ((blA g u2 ++ (X))))))) H.size q10) 2 rfl w_237 w_74 w_238 rfl ⟨rfl, rfl⟩ hd_X5_init ⟨Nat.le_of_ble_eq_true rfl, Nat.le_of_ble_eq_true rfl⟩ rfl hl.1 rfl (Nat.le_of_ble_eq_true rfl) dX9_init_42 ⟨Nat.le_of_ble_eq_true rfl, Nat.le_of_ble_eq_true rfl⟩) (fun u11 H locs hu12 hI => ?_)
  have hI : KI g _ s ((a, .inr (10, [.ref q1, .ref q4, .ref q7, .int 0, .null, .null, .null, .null, .null, .int 0, .int 0])) :: (blH g u11 ++ ((blA g u8 ++ ((blA g u5 ++ ((blA g u2 ++ (X))))))))) H locs := hI
  refine n_putF (C := RX9) (T := TX9) (N := 11) (ci := 10) (ty := (.object "FrogParliament$History")) C0 hC hI hnm iX9 tyX9 tyX9_ok nmX9 0 rfl rfl 4 (by decide) w_346 rfl rfl (by decide +kernel) rfl rfl (Nat.le_of_ble_eq_true rfl) dX9_init_45 (fun H locs hI => ?_)
  have hI : KI g _ s ((a, .inr (10, [.ref q1, .ref q4, .ref q7, .int 0, .ref q10, .null, .null, .null, .null, .int 0, .int 0])) :: (blH g u11 ++ ((blA g u8 ++ ((blA g u5 ++ ((blA g u2 ++ (X))))))))) H locs := hI
  refine lv_aload_n C0.1 C0.2.1 dX9_init_48 rfl (lv_at hl 0 rfl) ?_
  refine n_new (C := RX8) (T := TX8) (N := 2) (ci := 9) C0 hC hI iX8 tyX8 tyX8_ok w_254 w_255 w_75 rfl fr_RX8 (Nat.le_of_ble_eq_true rfl) (Nat.le_of_ble_eq_true rfl) dX9_init_49 (fun q13 H hI => ?_)
  have hI : KI g _ s ((q13, .inr (9, [.null, .int 0])) :: (a, .inr (10, [.ref q1, .ref q4, .ref q7, .int 0, .ref q10, .null, .null, .null, .null, .int 0, .int 0])) :: (blH g u11 ++ ((blA g u8 ++ ((blA g u5 ++ ((blA g u2 ++ (X))))))))) H locs := hI
  refine lv_dup C0.1 C0.2.1 dX9_init_52 rfl ?_
  refine n_call (hot := [(a, .inr (10, [.ref q1, .ref q4, .ref q7, .int 0, .ref q10, .null, .null, .null, .null, .int 0, .int 0]))]) (Rr := ((blH g u11 ++ ((blA g u8 ++ ((blA g u5 ++ ((blA g u2 ++ (X)))))))))) (e0 := (q13, .inr (9, [.null, .int 0]))) hC hI (n_IN (As := []) C0 hC hI (cc_X8_init l g ((a, .inr (10, [.ref q1, .ref q4, .ref q7, .int 0, .ref q10, .null, .null, .null, .null, .int 0, .int 0])) :: (blH g u11 ++ ((blA g u8 ++ ((blA g u5 ++ ((blA g u2 ++ (X))))))))) H.size q13) 4 rfl w_257 w_75 w_258 rfl ⟨rfl, rfl⟩ hd_X8_init ⟨Nat.le_of_ble_eq_true rfl, Nat.le_of_ble_eq_true rfl⟩ rfl hl.1 rfl (Nat.le_of_ble_eq_true rfl) dX9_init_53 ⟨Nat.le_of_ble_eq_true rfl, Nat.le_of_ble_eq_true rfl⟩) (fun u14 H locs hu15 hI => ?_)
  have hI : KI g _ s ((a, .inr (10, [.ref q1, .ref q4, .ref q7, .int 0, .ref q10, .null, .null, .null, .null, .int 0, .int 0])) :: (blQ g u14 ++ ((blH g u11 ++ ((blA g u8 ++ ((blA g u5 ++ ((blA g u2 ++ (X))))))))))) H locs := hI
  refine n_putF (C := RX9) (T := TX9) (N := 11) (ci := 10) (ty := (.object "FrogParliament$SpeakerQueue")) C0 hC hI hnm iX9 tyX9 tyX9_ok nmX9 0 rfl rfl 5 (by decide) w_347 rfl rfl (by decide +kernel) rfl rfl (Nat.le_of_ble_eq_true rfl) dX9_init_56 (fun H locs hI => ?_)
  have hI : KI g _ s ((a, .inr (10, [.ref q1, .ref q4, .ref q7, .int 0, .ref q10, .ref q13, .null, .null, .null, .int 0, .int 0])) :: (blQ g u14 ++ ((blH g u11 ++ ((blA g u8 ++ ((blA g u5 ++ ((blA g u2 ++ (X))))))))))) H locs := hI
  refine lv_aload_n C0.1 C0.2.1 dX9_init_59 rfl (lv_at hl 0 rfl) ?_
  refine n_new (C := RX4) (T := TX4) (N := 3) (ci := 6) C0 hC hI iX4 tyX4 tyX4_ok w_267 w_268 w_76 rfl fr_RX4 (Nat.le_of_ble_eq_true rfl) (Nat.le_of_ble_eq_true rfl) dX9_init_60 (fun q16 H hI => ?_)
  have hI : KI g _ s ((q16, .inr (6, [.null, .int 0, .int 0])) :: (a, .inr (10, [.ref q1, .ref q4, .ref q7, .int 0, .ref q10, .ref q13, .null, .null, .null, .int 0, .int 0])) :: (blQ g u14 ++ ((blH g u11 ++ ((blA g u8 ++ ((blA g u5 ++ ((blA g u2 ++ (X))))))))))) H locs := hI
  refine lv_dup C0.1 C0.2.1 dX9_init_63 rfl ?_
  refine n_call (hot := [(a, .inr (10, [.ref q1, .ref q4, .ref q7, .int 0, .ref q10, .ref q13, .null, .null, .null, .int 0, .int 0]))]) (Rr := ((blQ g u14 ++ ((blH g u11 ++ ((blA g u8 ++ ((blA g u5 ++ ((blA g u2 ++ (X)))))))))))) (e0 := (q16, .inr (6, [.null, .int 0, .int 0]))) hC hI (n_IN (As := []) C0 hC hI (cc_X4_init l g ((a, .inr (10, [.ref q1, .ref q4, .ref q7, .int 0, .ref q10, .ref q13, .null, .null, .null, .int 0, .int 0])) :: (blQ g u14 ++ ((blH g u11 ++ ((blA g u8 ++ ((blA g u5 ++ ((blA g u2 ++ (X))))))))))) H.size q16) 5 rfl w_270 w_76 w_271 rfl ⟨rfl, rfl⟩ hd_X4_init ⟨Nat.le_of_ble_eq_true rfl, Nat.le_of_ble_eq_true rfl⟩ rfl hl.1 rfl (Nat.le_of_ble_eq_true rfl) dX9_init_64 ⟨Nat.le_of_ble_eq_true rfl, Nat.le_of_ble_eq_true rfl⟩) (fun u17 H locs hu18 hI => ?_)
  have hI : KI g _ s ((a, .inr (10, [.ref q1, .ref q4, .ref q7, .int 0, .ref q10, .ref q13, .null, .null, .null, .int 0, .int 0])) :: (blR g u17 ++ ((blQ g u14 ++ ((blH g u11 ++ ((blA g u8 ++ ((blA g u5 ++ ((blA g u2 ++ (X))))))))))))) H locs := hI
  refine n_putF (C := RX9) (T := TX9) (N := 11) (ci := 10) (ty := (.object "FrogParliament$CommandReader")) C0 hC hI hnm iX9 tyX9 tyX9_ok nmX9 0 rfl rfl 6 (by decide) w_348 rfl rfl (by decide +kernel) rfl rfl (Nat.le_of_ble_eq_true rfl) dX9_init_67 (fun H locs hI => ?_)
  have hI : KI g _ s ((a, .inr (10, [.ref q1, .ref q4, .ref q7, .int 0, .ref q10, .ref q13, .ref q16, .null, .null, .int 0, .int 0])) :: (blR g u17 ++ ((blQ g u14 ++ ((blH g u11 ++ ((blA g u8 ++ ((blA g u5 ++ ((blA g u2 ++ (X))))))))))))) H locs := hI
  refine lv_aload_n C0.1 C0.2.1 dX9_init_70 rfl (lv_at hl 0 rfl) ?_
  refine n_new (C := RJ4) (T := TJ4) (N := 4) (ci := 1) C0 hC hI iJ4 tyJ4 tyJ4_ok w_309 w_310 w_81 rfl fr_RJ4 (Nat.le_of_ble_eq_true rfl) (Nat.le_of_ble_eq_true rfl) dX9_init_71 (fun q19 H hI => ?_)
  have hI : KI g _ s ((q19, .inr (1, [.null, .int 0, .int 0, .int 0])) :: (a, .inr (10, [.ref q1, .ref q4, .ref q7, .int 0, .ref q10, .ref q13, .ref q16, .null, .null, .int 0, .int 0])) :: (blR g u17 ++ ((blQ g u14 ++ ((blH g u11 ++ ((blA g u8 ++ ((blA g u5 ++ ((blA g u2 ++ (X))))))))))))) H locs := hI
  refine lv_dup C0.1 C0.2.1 dX9_init_74 rfl ?_
  refine n_call (hot := [(a, .inr (10, [.ref q1, .ref q4, .ref q7, .int 0, .ref q10, .ref q13, .ref q16, .null, .null, .int 0, .int 0]))]) (Rr := ((blR g u17 ++ ((blQ g u14 ++ ((blH g u11 ++ ((blA g u8 ++ ((blA g u5 ++ ((blA g u2 ++ (X)))))))))))))) (e0 := (q19, .inr (1, [.null, .int 0, .int 0, .int 0]))) hC hI (n_I (As := []) C0 hC hI (cc_J4_init_da8c8 l g ((a, .inr (10, [.ref q1, .ref q4, .ref q7, .int 0, .ref q10, .ref q13, .ref q16, .null, .null, .int 0, .int 0])) :: (blR g u17 ++ ((blQ g u14 ++ ((blH g u11 ++ ((blA g u8 ++ ((blA g u5 ++ ((blA g u2 ++ (X))))))))))))) H.size q19) w_311 w_312 w_81 w_313 rfl ⟨rfl, rfl⟩ hd_J4_init_da8c8 ⟨Nat.le_of_ble_eq_true rfl, Nat.le_of_ble_eq_true rfl⟩ rfl hl.1 rfl (Nat.le_of_ble_eq_true rfl) dX9_init_75 ⟨Nat.le_of_ble_eq_true rfl, Nat.le_of_ble_eq_true rfl⟩) (fun u20 H locs hu21 hI => ?_)
  have hI : KI g _ s ((a, .inr (10, [.ref q1, .ref q4, .ref q7, .int 0, .ref q10, .ref q13, .ref q16, .null, .null, .int 0, .int 0])) :: (blS g u20 ++ ((blR g u17 ++ ((blQ g u14 ++ ((blH g u11 ++ ((blA g u8 ++ ((blA g u5 ++ ((blA g u2 ++ (X))))))))))))))) H locs := hI
  refine n_putF (C := RX9) (T := TX9) (N := 11) (ci := 10) (ty := (.object "java/lang/StringBuilder")) C0 hC hI hnm iX9 tyX9 tyX9_ok nmX9 0 rfl rfl 7 (by decide) w_349 rfl rfl (by decide +kernel) rfl rfl (Nat.le_of_ble_eq_true rfl) dX9_init_78 (fun H locs hI => ?_)
  have hI : KI g _ s ((a, .inr (10, [.ref q1, .ref q4, .ref q7, .int 0, .ref q10, .ref q13, .ref q16, .ref q19, .null, .int 0, .int 0])) :: (blS g u20 ++ ((blR g u17 ++ ((blQ g u14 ++ ((blH g u11 ++ ((blA g u8 ++ ((blA g u5 ++ ((blA g u2 ++ (X))))))))))))))) H locs := hI
  refine lv_aload_n C0.1 C0.2.1 dX9_init_81 rfl (lv_at hl 0 rfl) ?_
  refine n_new (C := RJ4) (T := TJ4) (N := 4) (ci := 1) C0 hC hI iJ4 tyJ4 tyJ4_ok w_309 w_310 w_81 rfl fr_RJ4 (Nat.le_of_ble_eq_true rfl) (Nat.le_of_ble_eq_true rfl) dX9_init_82 (fun q22 H hI => ?_)
  have hI : KI g _ s ((q22, .inr (1, [.null, .int 0, .int 0, .int 0])) :: (a, .inr (10, [.ref q1, .ref q4, .ref q7, .int 0, .ref q10, .ref q13, .ref q16, .ref q19, .null, .int 0, .int 0])) :: (blS g u20 ++ ((blR g u17 ++ ((blQ g u14 ++ ((blH g u11 ++ ((blA g u8 ++ ((blA g u5 ++ ((blA g u2 ++ (X))))))))))))))) H locs := hI
  refine lv_dup C0.1 C0.2.1 dX9_init_85 rfl ?_
  refine n_call (hot := [(a, .inr (10, [.ref q1, .ref q4, .ref q7, .int 0, .ref q10, .ref q13, .ref q16, .ref q19, .null, .int 0, .int 0]))]) (Rr := ((blS g u20 ++ ((blR g u17 ++ ((blQ g u14 ++ ((blH g u11 ++ ((blA g u8 ++ ((blA g u5 ++ ((blA g u2 ++ (X)))))))))))))))) (e0 := (q22, .inr (1, [.null, .int 0, .int 0, .int 0]))) hC hI (n_I (As := []) C0 hC hI (cc_J4_init_da8c8 l g ((a, .inr (10, [.ref q1, .ref q4, .ref q7, .int 0, .ref q10, .ref q13, .ref q16, .ref q19, .null, .int 0, .int 0])) :: (blS g u20 ++ ((blR g u17 ++ ((blQ g u14 ++ ((blH g u11 ++ ((blA g u8 ++ ((blA g u5 ++ ((blA g u2 ++ (X))))))))))))))) H.size q22) w_311 w_312 w_81 w_313 rfl ⟨rfl, rfl⟩ hd_J4_init_da8c8 ⟨Nat.le_of_ble_eq_true rfl, Nat.le_of_ble_eq_true rfl⟩ rfl hl.1 rfl (Nat.le_of_ble_eq_true rfl) dX9_init_86 ⟨Nat.le_of_ble_eq_true rfl, Nat.le_of_ble_eq_true rfl⟩) (fun u23 H locs hu24 hI => ?_)
  have hI : KI g _ s ((a, .inr (10, [.ref q1, .ref q4, .ref q7, .int 0, .ref q10, .ref q13, .ref q16, .ref q19, .null, .int 0, .int 0])) :: (blS g u23 ++ ((blS g u20 ++ ((blR g u17 ++ ((blQ g u14 ++ ((blH g u11 ++ ((blA g u8 ++ ((blA g u5 ++ ((blA g u2 ++ (X))))))))))))))))) H locs := hI
  refine n_putF (C := RX9) (T := TX9) (N := 11) (ci := 10) (ty := (.object "java/lang/StringBuilder")) C0 hC hI hnm iX9 tyX9 tyX9_ok nmX9 0 rfl rfl 8 (by decide) w_350 rfl rfl (by decide +kernel) rfl rfl (Nat.le_of_ble_eq_true rfl) dX9_init_89 (fun H locs hI => ?_)
  have hI : KI g _ s ((a, .inr (10, [.ref q1, .ref q4, .ref q7, .int 0, .ref q10, .ref q13, .ref q16, .ref q19, .ref q22, .int 0, .int 0])) :: (blS g u23 ++ ((blS g u20 ++ ((blR g u17 ++ ((blQ g u14 ++ ((blH g u11 ++ ((blA g u8 ++ ((blA g u5 ++ ((blA g u2 ++ (X))))))))))))))))) H locs := hI
  refine lv_aload_n C0.1 C0.2.1 dX9_init_92 rfl (lv_at hl 0 rfl) ?_
  refine lv_iconst (v := (-1)) C0.1 C0.2.1 dX9_init_93 (by decide) ?_
  refine n_put (C := RX9) (T := TX9) (N := 11) (ci := 10) (ty := .int) C0 hC hI iX9 tyX9 tyX9_ok nmX9 0 rfl rfl 9 (by decide) w_351 rfl (by decide +kernel) rfl rfl (Nat.le_of_ble_eq_true rfl) dX9_init_94 (fun H locs hI => ?_)
  have hI : KI g _ s ((a, .inr (10, [.ref q1, .ref q4, .ref q7, .int 0, .ref q10, .ref q13, .ref q16, .ref q19, .ref q22, .int (-1), .int 0])) :: (blS g u23 ++ ((blS g u20 ++ ((blR g u17 ++ ((blQ g u14 ++ ((blH g u11 ++ ((blA g u8 ++ ((blA g u5 ++ ((blA g u2 ++ (X))))))))))))))))) H locs := hI
  refine lv_aload_n C0.1 C0.2.1 dX9_init_97 rfl (lv_at hl 0 rfl) ?_
  refine lv_iconst (v := (-1)) C0.1 C0.2.1 dX9_init_98 (by decide) ?_
  refine n_put (C := RX9) (T := TX9) (N := 11) (ci := 10) (ty := .int) C0 hC hI iX9 tyX9 tyX9_ok nmX9 0 rfl rfl 10 (by decide) w_352 rfl (by decide +kernel) rfl rfl (Nat.le_of_ble_eq_true rfl) dX9_init_99 (fun H locs hI => ?_)
  have hI : KI g _ s ((a, .inr (10, [.ref q1, .ref q4, .ref q7, .int 0, .ref q10, .ref q13, .ref q16, .ref q19, .ref q22, .int (-1), .int (-1)])) :: (blS g u23 ++ ((blS g u20 ++ ((blR g u17 ++ ((blQ g u14 ++ ((blH g u11 ++ ((blA g u8 ++ ((blA g u5 ++ ((blA g u2 ++ (X))))))))))))))))) H locs := hI
  subst hu3
  subst hu6
  subst hu9
  subst hu12
  subst hu15
  subst hu18
  subst hu21
  subst hu24
  exact n_end C0 hI hr hlocks ((fun j => [u14 0, u14 1, u20 0, u20 1, u23 0, u23 1].getD j 0), (fun i => [u2, u5, u8].getD i (fun _ => 0, fun _ _ => 0)), u11, u17) trivial (by simp only [blP, blQ, blS, List.append_assoc, List.cons_append, List.nil_append]; rfl) dX9_init_102
