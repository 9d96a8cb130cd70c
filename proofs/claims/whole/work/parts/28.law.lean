/-! ===== the law's world: all of it new ===== -/
def AL (s : State) : Nat → Prop := fun q => s.heap.size ≤ q
def LWc (g : GG) (r b bm : Nat → Nat) (q1 q2 : Nat) (T M Mm : Mem) (o : Nat → Int64) (d : Nat → UInt64) (J : va_W) : va_W :=
  (xb g r T ++ (outs g q1 q2 o d ++ (J ++ pw 10 (shM g bm) bm Mm))) ++ pw 372 (shI g r b) b M
theorem KI.view {g : GG} {s : State} {X ws : va_W} {N : Nat} {sh : Shp} {b : Nat → Nat} {M : Mem} {H : Heap} {locs : List Loc} (hC : CC g (AL s) s) (h : KI g (AL s) s ws H locs) (hp : List.Perm (X ++ pw N sh b M) ws) : AA X b N s.heap.size = AL s ∧ CX g X N sh b s ∧ PI g X N sh b s M H locs := by
  have h2 := h.perm hp
  have e : AA X b N s.heap.size = AL s := by
    funext q
    apply propext
    rw [AA_iff]
    constructor
    · intro z
      rcases z with z | ⟨k, hk, z⟩ | z
      · obtain ⟨p, hp, rfl⟩ := List.mem_map.mp z
        exact (vD_iff.mp h2.2.1).2 p (List.mem_append_left _ hp)
      · subst z
        exact (vD_iff.mp h2.2.1).2 (b k, sh k (M k)) (List.mem_append_right _ (pw_mem.mpr ⟨k, hk, rfl⟩))
      · exact z
    · intro z
      exact Or.inr (Or.inr z)
  exact ⟨e, ⟨hC.1, fun M' => pw_A (pw_D h2.2.1), by rw [e]; exact hC.2.2.1, hC.2.2.2⟩, h2.1, by rw [e]; exact h2.2.2⟩
theorem KI.unview {g : GG} {s : State} {X : va_W} {N : Nat} {sh : Shp} {b : Nat → Nat} {M : Mem} {H : Heap} {locs : List Loc} (e : AA X b N s.heap.size = AL s) (C1 : CX g X N sh b s) (hI : PI g X N sh b s M H locs) : KI g (AL s) s (X ++ pw N sh b M) H locs :=
  ⟨hI.1, by rw [← e]; exact C1.2.1 M, by rw [← e]; exact hI.2⟩
theorem pmm {g : GG} {r b bm : Nat → Nat} {q1 q2 : Nat} {T M Mm : Mem} {o : Nat → Int64} {d : Nat → UInt64} {J : va_W} : List.Perm ((xb g r T ++ (outs g q1 q2 o d ++ J) ++ pw 372 (shI g r b) b M) ++ pw 10 (shM g bm) bm Mm) (LWc g r b bm q1 q2 T M Mm o d J) := by
  unfold LWc
  simp only [List.append_assoc]
  exact (((List.perm_append_comm).append_left _).append_left _).append_left _
section LAW
variable {p : Program} {l : Launch} {e : Env} {R : Room} {s : State} {m : MethodId} {args : Array Value} {below : List Frame} {meth : Method} {c : Code} {H : Heap} {locs : List Loc} {cells slots mc ms : Nat} {Q : State → Prop}
variable {cc : ByteArray} {nL : Nat} {own : String} {pc n index : Nat} {ls : Array Slot} {rest st0 As : List Value} {g : GG} {J : va_W} {r b bm : Nat → Nat} {T T' M M' Mm Mm' : Mem} {q1 q2 : Nat} {o o' : Nat → Int64} {d d' : Nat → UInt64}
variable {y : MethodName} {bytes : ByteArray} {maxL : Nat} {ret : Option FieldType} {rm : Room}
/-- a call of the class that throws nothing -/
theorem lc_i {r0 : Int32} (C0 : CallFix p m c cc nL s args LWg own) (hC : CC g (AL s) s) (hI : KI g (AL s) s (LWc g r b bm q1 q2 T M Mm o d J) H locs)
    (hM : Met l y (.code y bytes maxL ret :: LWg) rm (va_Pc (.ref (b 0) :: As) (PreP g (xb g r T ++ (outs g q1 q2 o d ++ (J ++ pw 10 (shM g bm) bm Mm))) 372 (shI g r b) b H.size M)) (Qi g (xb g r T ++ (outs g q1 q2 o d ++ (J ++ pw 10 (shM g bm) bm Mm))) 372 (shI g r b) b H.size r0 M') mc ms (AA (xb g r T ++ (outs g q1 q2 o d ++ (J ++ pw 10 (shM g bm) bm Mm))) b 372 H.size)) (h1 : (.methodLink own index y) ∈ LWg) (h2 : (.instanceMethod y) ∈ LWg) (h3 : (.selects y.cls y y) ∈ LWg) (h4 : (.initialized y.cls) ∈ LWg) (h5 : (.code y bytes maxL ret) ∈ LWg)
    (hr : rm.cells = mc ∧ rm.slots = ms) (hd : y.cls ≠ "java/lang/invoke/MethodHandle" ∧ y.cls ≠ "java/lang/invoke/VarHandle" ∧ (parseMethodDescriptor y.desc).map (fun d => d.parameters.length) = some n) (hR : rm.frames + 1 ≤ R.frames ∧ 8 + (maxL + 11) + rm.locals ≤ R.locals) (hrc : RX9 = y.cls)
    (hn : As.length = n) (hls : ls.size = nL) (hst : st0 = As.reverse ++ .ref (b 0) :: rest) (hW : (rest.map fun v => v.category).sum ≤ 8) (hdg : decode cc pc = .ok (.invokevirtual index, 3)) (hf : cells + mc ≤ R.cells ∧ slots + ms ≤ R.slots)
    (kk : ∀ (H : Heap) (locs : List Loc), KI g (AL s) s (LWc g r b bm q1 q2 T M' Mm o d J) H locs → W p l e R s m args below meth c H locs (cells + mc) (slots + ms) Q (F0 m (pc + 3) ls (.int r0 :: rest))) : W p l e R s m args below meth c H locs cells slots Q (F0 m pc ls st0) := by
  obtain ⟨eA, C1, hI1⟩ := hI.view hC (List.Perm.refl _)
  exact k_i C1 hI1 (q_V C0 C1 hI1 0 hM h1 h2 h3 h4 h5 hr hd hR (kdlt0 (rfl : kdI 0 = 0)) (shI_0 (rfl : kdI 0 = 0) _) rfl hrc hn hls hst hW hdg hf) (fun H locs hI2 => kk H locs (KI.unview eA C1 hI2))
/-- a call of the reference -/
theorem lm_i {r0 : Int32} (C0 : CallFix p m c cc nL s args LWg own) (hC : CC g (AL s) s) (hI : KI g (AL s) s (LWc g r b bm q1 q2 T M Mm o d J) H locs)
    (hM : Met l y (.code y bytes maxL ret :: LWg) rm (va_Pc (.ref (bm 0) :: As) (PreP g (xb g r T ++ (outs g q1 q2 o d ++ J) ++ pw 372 (shI g r b) b M) 10 (shM g bm) bm H.size Mm)) (Qi g (xb g r T ++ (outs g q1 q2 o d ++ J) ++ pw 372 (shI g r b) b M) 10 (shM g bm) bm H.size r0 Mm') mc ms (AA (xb g r T ++ (outs g q1 q2 o d ++ J) ++ pw 372 (shI g r b) b M) bm 10 H.size)) (h1 : (.methodLink own index y) ∈ LWg) (h2 : (.instanceMethod y) ∈ LWg) (h3 : (.selects y.cls y y) ∈ LWg) (h4 : (.initialized y.cls) ∈ LWg) (h5 : (.code y bytes maxL ret) ∈ LWg)
    (hr : rm.cells = mc ∧ rm.slots = ms) (hd : y.cls ≠ "java/lang/invoke/MethodHandle" ∧ y.cls ≠ "java/lang/invoke/VarHandle" ∧ (parseMethodDescriptor y.desc).map (fun d => d.parameters.length) = some n) (hR : rm.frames + 1 ≤ R.frames ∧ 8 + (maxL + 11) + rm.locals ≤ R.locals) (hrc : RX10 = y.cls)
    (hn : As.length = n) (hls : ls.size = nL) (hst : st0 = As.reverse ++ .ref (bm 0) :: rest) (hW : (rest.map fun v => v.category).sum ≤ 8) (hdg : decode cc pc = .ok (.invokevirtual index, 3)) (hf : cells + mc ≤ R.cells ∧ slots + ms ≤ R.slots)
    (kk : ∀ (H : Heap) (locs : List Loc), KI g (AL s) s (LWc g r b bm q1 q2 T M Mm' o d J) H locs → W p l e R s m args below meth c H locs (cells + mc) (slots + ms) Q (F0 m (pc + 3) ls (.int r0 :: rest))) : W p l e R s m args below meth c H locs cells slots Q (F0 m pc ls st0) := by
  obtain ⟨eA, C1, hI1⟩ := hI.view hC pmm
  exact k_i C1 hI1 (q_V C0 C1 hI1 0 hM h1 h2 h3 h4 h5 hr hd hR (Nat.le_of_ble_eq_true rfl) rfl rfl hrc hn hls hst hW hdg hf) (fun H locs hI2 => kk H locs (KI.perm (KI.unview eA C1 hI2) pmm.symm))
/-- a call of the reference -/
theorem lm_f {r0 : UInt32} (C0 : CallFix p m c cc nL s args LWg own) (hC : CC g (AL s) s) (hI : KI g (AL s) s (LWc g r b bm q1 q2 T M Mm o d J) H locs)
    (hM : Met l y (.code y bytes maxL ret :: LWg) rm (va_Pc (.ref (bm 0) :: As) (PreP g (xb g r T ++ (outs g q1 q2 o d ++ J) ++ pw 372 (shI g r b) b M) 10 (shM g bm) bm H.size Mm)) (Qf g (xb g r T ++ (outs g q1 q2 o d ++ J) ++ pw 372 (shI g r b) b M) 10 (shM g bm) bm H.size r0 Mm') mc ms (AA (xb g r T ++ (outs g q1 q2 o d ++ J) ++ pw 372 (shI g r b) b M) bm 10 H.size)) (h1 : (.methodLink own index y) ∈ LWg) (h2 : (.instanceMethod y) ∈ LWg) (h3 : (.selects y.cls y y) ∈ LWg) (h4 : (.initialized y.cls) ∈ LWg) (h5 : (.code y bytes maxL ret) ∈ LWg)
    (hr : rm.cells = mc ∧ rm.slots = ms) (hd : y.cls ≠ "java/lang/invoke/MethodHandle" ∧ y.cls ≠ "java/lang/invoke/VarHandle" ∧ (parseMethodDescriptor y.desc).map (fun d => d.parameters.length) = some n) (hR : rm.frames + 1 ≤ R.frames ∧ 8 + (maxL + 11) + rm.locals ≤ R.locals) (hrc : RX10 = y.cls)
    (hn : As.length = n) (hls : ls.size = nL) (hst : st0 = As.reverse ++ .ref (bm 0) :: rest) (hW : (rest.map fun v => v.category).sum ≤ 8) (hdg : decode cc pc = .ok (.invokevirtual index, 3)) (hf : cells + mc ≤ R.cells ∧ slots + ms ≤ R.slots)
    (kk : ∀ (H : Heap) (locs : List Loc), KI g (AL s) s (LWc g r b bm q1 q2 T M Mm' o d J) H locs → W p l e R s m args below meth c H locs (cells + mc) (slots + ms) Q (F0 m (pc + 3) ls (.float r0 :: rest))) : W p l e R s m args below meth c H locs cells slots Q (F0 m pc ls st0) := by
  obtain ⟨eA, C1, hI1⟩ := hI.view hC pmm
  exact k_f C1 hI1 (q_V C0 C1 hI1 0 hM h1 h2 h3 h4 h5 hr hd hR (Nat.le_of_ble_eq_true rfl) rfl rfl hrc hn hls hst hW hdg hf) (fun H locs hI2 => kk H locs (KI.perm (KI.unview eA C1 hI2) pmm.symm))
/-- a call of the reference -/
theorem lm_d {r0 : UInt64} (C0 : CallFix p m c cc nL s args LWg own) (hC : CC g (AL s) s) (hI : KI g (AL s) s (LWc g r b bm q1 q2 T M Mm o d J) H locs)
    (hM : Met l y (.code y bytes maxL ret :: LWg) rm (va_Pc (.ref (bm 0) :: As) (PreP g (xb g r T ++ (outs g q1 q2 o d ++ J) ++ pw 372 (shI g r b) b M) 10 (shM g bm) bm H.size Mm)) (Qd g (xb g r T ++ (outs g q1 q2 o d ++ J) ++ pw 372 (shI g r b) b M) 10 (shM g bm) bm H.size r0 Mm') mc ms (AA (xb g r T ++ (outs g q1 q2 o d ++ J) ++ pw 372 (shI g r b) b M) bm 10 H.size)) (h1 : (.methodLink own index y) ∈ LWg) (h2 : (.instanceMethod y) ∈ LWg) (h3 : (.selects y.cls y y) ∈ LWg) (h4 : (.initialized y.cls) ∈ LWg) (h5 : (.code y bytes maxL ret) ∈ LWg)
    (hr : rm.cells = mc ∧ rm.slots = ms) (hd : y.cls ≠ "java/lang/invoke/MethodHandle" ∧ y.cls ≠ "java/lang/invoke/VarHandle" ∧ (parseMethodDescriptor y.desc).map (fun d => d.parameters.length) = some n) (hR : rm.frames + 1 ≤ R.frames ∧ 8 + (maxL + 11) + rm.locals ≤ R.locals) (hrc : RX10 = y.cls)
    (hn : As.length = n) (hls : ls.size = nL) (hst : st0 = As.reverse ++ .ref (bm 0) :: rest) (hW : (rest.map fun v => v.category).sum ≤ 8) (hdg : decode cc pc = .ok (.invokevirtual index, 3)) (hf : cells + mc ≤ R.cells ∧ slots + ms ≤ R.slots)
    (kk : ∀ (H : Heap) (locs : List Loc), KI g (AL s) s (LWc g r b bm q1 q2 T M Mm' o d J) H locs → W p l e R s m args below meth c H locs (cells + mc) (slots + ms) Q (F0 m (pc + 3) ls (.double r0 :: rest))) : W p l e R s m args below meth c H locs cells slots Q (F0 m pc ls st0) := by
  obtain ⟨eA, C1, hI1⟩ := hI.view hC pmm
  exact k_d C1 hI1 (q_V C0 C1 hI1 0 hM h1 h2 h3 h4 h5 hr hd hR (Nat.le_of_ble_eq_true rfl) rfl rfl hrc hn hls hst hW hdg hf) (fun H locs hI2 => kk H locs (KI.perm (KI.unview eA C1 hI2) pmm.symm))

/-- a call of a helper -/
theorem lc_h {hh : List (Nat × Nat × Nat × Nat)} {R0 : Int32} (C0 : CallFix p m c cc nL s args LWg own) (hC : CC g (AL s) s) (hI : KI g (AL s) s (LWc g r b bm q1 q2 T M Mm o d J) H locs)
    (hM : Met l y (.codeWith y bytes maxL ret hh :: LWg) rm (va_Pc As (PreP g (xb g r T ++ (outs g q1 q2 o d ++ (J ++ pw 10 (shM g bm) bm Mm))) 372 (shI g r b) b H.size M)) (va_Qi (fun res (_ : Unit) => res = R0) (fun _ t => PoP g (xb g r T ++ (outs g q1 q2 o' d' ++ (J ++ pw 10 (shM g bm) bm Mm))) 372 (shI g r b) b M' t) (AA (xb g r T ++ (outs g q1 q2 o d ++ (J ++ pw 10 (shM g bm) bm Mm))) b 372 H.size)) mc ms (AA (xb g r T ++ (outs g q1 q2 o d ++ (J ++ pw 10 (shM g bm) bm Mm))) b 372 H.size))
    (h1 : (.methodLink own index y) ∈ LWg) (h2 : (.static y) ∈ LWg) (h4 : (.initialized y.cls) ∈ LWg) (h5 : (.codeWith y bytes maxL ret hh) ∈ LWg)
    (hr : rm.cells = mc ∧ rm.slots = ms) (hd : y.cls ≠ "java/lang/invoke/MethodHandle" ∧ y.cls ≠ "java/lang/invoke/VarHandle" ∧ (parseMethodDescriptor y.desc).map (fun d => d.parameters.length) = some n) (hR : rm.frames + 1 ≤ R.frames ∧ 8 + (maxL + 11) + rm.locals ≤ R.locals)
    (hn : As.length = n) (hls : ls.size = nL) (hst : st0 = As.reverse ++ rest) (hW : (rest.map fun v => v.category).sum ≤ 8) (hdg : decode cc pc = .ok (.invokestatic index, 3)) (hf : cells + mc ≤ R.cells ∧ slots + ms ≤ R.slots)
    (kk : ∀ (H : Heap) (locs : List Loc), KI g (AL s) s (LWc g r b bm q1 q2 T M' Mm o' d' J) H locs → W p l e R s m args below meth c H locs (cells + mc) (slots + ms) Q (F0 m (pc + 3) ls (.int R0 :: rest))) : W p l e R s m args below meth c H locs cells slots Q (F0 m pc ls st0) := by
  obtain ⟨eA, C1, hI1⟩ := hI.view hC (List.Perm.refl _)
  obtain ⟨eA2, C2⟩ := CX.map (X' := xb g r T ++ (outs g q1 q2 o' d' ++ (J ++ pw 10 (shM g bm) bm Mm))) (by simp only [List.map_append]; rfl) C1
  refine va_calli (vx_runSW C0 hM (vx_cwSW n C0.2.2.2.2 (good_c h1 (good_c h2 (good_c h4 (good_allH h5)))) rfl hr.1 hr.2 hd hR) ⟨PreP.blind, fun U hU hW => ⟨rfl, PreP.call C1 hI1 hU hW⟩⟩ rfl hn hls hst (lv_room hW) hdg hf) hI1.2 (fun q _ h => CX.fr hI1 q h) (CX.fr hI1) (fun r1 u t H1 locs1 ht hvm hp hb hz hk hS => ?_)
  subst hp
  exact kk H1 locs1 (KI.unview (eA2.trans eA) C2 ⟨by rw [← ht]; exact hb, by rw [eA2]; exact hS⟩)
/-- a call of a helper under which an array may grow -/
theorem lc_g {hh : List (Nat × Nat × Nat × Nat)} {R0 : Int32} (C0 : CallFix p m c cc nL s args LWg own) (hC : CC g (AL s) s) (hI : KI g (AL s) s (LWc g r b bm q1 q2 T M Mm o d J) H locs)
    (hM : Met l y (.codeWith y bytes maxL ret hh :: LWg) rm (va_Pc As (PreP g (xb g r T ++ (outs g q1 q2 o d ++ (J ++ pw 10 (shM g bm) bm Mm))) 372 (shI g r b) b H.size M)) (va_Qi (fun res (_ : Unit) => res = R0) (fun _ t => PoH g (J ++ pw 10 (shM g bm) bm Mm) (AA (xb g r T ++ (outs g q1 q2 o d ++ (J ++ pw 10 (shM g bm) bm Mm))) b 372 H.size) b H.size q1 q2 o' d' T' M' t) (AA (xb g r T ++ (outs g q1 q2 o d ++ (J ++ pw 10 (shM g bm) bm Mm))) b 372 H.size)) mc ms (AA (xb g r T ++ (outs g q1 q2 o d ++ (J ++ pw 10 (shM g bm) bm Mm))) b 372 H.size))
    (h1 : (.methodLink own index y) ∈ LWg) (h2 : (.static y) ∈ LWg) (h4 : (.initialized y.cls) ∈ LWg) (h5 : (.codeWith y bytes maxL ret hh) ∈ LWg)
    (hr : rm.cells = mc ∧ rm.slots = ms) (hd : y.cls ≠ "java/lang/invoke/MethodHandle" ∧ y.cls ≠ "java/lang/invoke/VarHandle" ∧ (parseMethodDescriptor y.desc).map (fun d => d.parameters.length) = some n) (hR : rm.frames + 1 ≤ R.frames ∧ 8 + (maxL + 11) + rm.locals ≤ R.locals)
    (hn : As.length = n) (hls : ls.size = nL) (hst : st0 = As.reverse ++ rest) (hW : (rest.map fun v => v.category).sum ≤ 8) (hdg : decode cc pc = .ok (.invokestatic index, 3)) (hf : cells + mc ≤ R.cells ∧ slots + ms ≤ R.slots)
    (kk : ∀ (r : Nat → Nat) (J : va_W) (H : Heap) (locs : List Loc), KI g (AL s) s (LWc g r b bm q1 q2 T' M' Mm o' d' J) H locs → W p l e R s m args below meth c H locs (cells + mc) (slots + ms) Q (F0 m (pc + 3) ls (.int R0 :: rest))) : W p l e R s m args below meth c H locs cells slots Q (F0 m pc ls st0) := by
  obtain ⟨eA, C1, hI1⟩ := hI.view hC (List.Perm.refl _)
  refine va_calli (vx_runSW C0 hM (vx_cwSW n C0.2.2.2.2 (good_c h1 (good_c h2 (good_c h4 (good_allH h5)))) rfl hr.1 hr.2 hd hR) ⟨PreP.blind, fun U hU hW => ⟨rfl, PreP.call C1 hI1 hU hW⟩⟩ rfl hn hls hst (lv_room hW) hdg hf) hI1.2 (fun q _ h => CX.fr hI1 q h) (CX.fr hI1) (fun r1 u t H1 locs1 ht hvm hp hb hz hk hS => ?_)
  subst hp
  obtain ⟨r', J', hP, hD, hA⟩ := hb
  have hA' := AA_low hA hI1.2.1
  have hp2 : List.Perm (LWc g r' b bm q1 q2 T' M' Mm o' d' (J' ++ J)) (xb g r' T' ++ (J' ++ (outs g q1 q2 o' d' ++ (J ++ pw 10 (shM g bm) bm Mm))) ++ pw 372 (shI g r' b) b M') := by
    unfold LWc
    simp only [List.append_assoc]
    exact List.Perm.append_left _ pm_mid
  refine kk r' (J' ++ J) H1 locs1 (KI.perm (KI.unview (X := xb g r' T' ++ (J' ++ (outs g q1 q2 o' d' ++ (J ++ pw 10 (shM g bm) bm Mm)))) (hA'.trans eA) ⟨C1.1, fun M2 => pw_A (pw_D hD), by rw [hA']; exact C1.2.2.1, C1.2.2.2⟩ ⟨by rw [← ht]; exact hP, by rw [hA']; exact hS⟩) hp2)
theorem lc_lald (C0 : CallFix p m c cc nL s args LWg own) (hC : CC g (AL s) s) (hI : KI g (AL s) s (LWc g r b bm q1 q2 T M Mm o d J) H locs) (hdg : decode cc pc = .ok (.laload, 1))
    (kk : W p l e R s m args below meth c H locs cells slots Q (F0 m (pc + 1) ls (.long (o 0) :: rest))) : W p l e R s m args below meth c H locs cells slots Q (F0 m pc ls (.int 0 :: .ref q1 :: rest)) :=
  va_lald C0.1 C0.2.1 hC.1 hI.1 2 5 (ha := rfl) rfl (i := 0) (inb_in (by decide)) hdg kk
theorem lc_dald (C0 : CallFix p m c cc nL s args LWg own) (hC : CC g (AL s) s) (hI : KI g (AL s) s (LWc g r b bm q1 q2 T M Mm o d J) H locs) (hdg : decode cc pc = .ok (.daload, 1))
    (kk : W p l e R s m args below meth c H locs cells slots Q (F0 m (pc + 1) ls (.double (d 0) :: rest))) : W p l e R s m args below meth c H locs cells slots Q (F0 m pc ls (.int 0 :: .ref q2 :: rest)) :=
  va_dald C0.1 C0.2.1 hC.1 hI.1 3 6 (ha := rfl) rfl (i := 0) (inb_in (by decide)) hdg kk
/-- the script -/
def LX (bs L : Nat) (xs : Nat → Int32) (s : State) : Prop := va_X bs L xs s s.heap ∧ bs < s.heap.size
theorem l_xs {ws : va_W} {bs L : Nat} {xs : Nat → Int32} (C0 : CallFix p m c cc nL s args LWg own) (hX : LX bs L xs s) (hI : KI g (AL s) s ws H locs) {i : Int32} (hin : vp_in i L) (hdg : decode cc pc = .ok (.iaload, 1))
    (kk : W p l e R s m args below meth c H locs cells slots Q (F0 m (pc + 1) ls (.int (xs (ix i)) :: rest))) : W p l e R s m args below meth c H locs cells slots Q (F0 m pc ls (.int i :: .ref bs :: rest)) :=
  va_sld C0.1 C0.2.1 hX.1 hX.2 (Nat.not_le.mpr hX.2) hI.2.2 hin hdg kk
theorem l_len {ws : va_W} {bs L : Nat} {xs : Nat → Int32} (C0 : CallFix p m c cc nL s args LWg own) (hX : LX bs L xs s) (hI : KI g (AL s) s ws H locs) (hdg : decode cc pc = .ok (.arraylength, 1))
    (kk : W p l e R s m args below meth c H locs cells slots Q (F0 m (pc + 1) ls (.int (nI L) :: rest))) : W p l e R s m args below meth c H locs cells slots Q (F0 m pc ls (.ref bs :: rest)) :=
  va_slen C0.1 C0.2.1 hX.1 hX.2 (Nat.not_le.mpr hX.2) hI.2.2 hdg kk
end LAW
theorem cx_0 {α : Type} {L : List Nat} {q0 : RX α} (hL : L.length < 100) (h : cx L q0 = 0) : ∃ w, q0 = .inr w := by
  cases q0 with
  | inr w => exact ⟨w, rfl⟩
  | inl k =>
    have h1 : nI (L.idxOf k + 1) = 0 := h
    have h2 : L.idxOf k ≤ L.length := List.idxOf_le_length
    exact absurd h1 (nI_ne0 (by omega) (by omega))
theorem lg_eq (x : Int64) : lg_cmp x x = 0 := by
  unfold lg_cmp
  rw [if_neg (by simp), if_pos rfl]
theorem updL0 {o : Nat → Int64} {x : Int64} : vp_updL o 0 x 0 = x := by simp [vp_updL]
theorem vfu0 {d : Nat → UInt64} {x : UInt64} : vf_upd d 0 x 0 = x := by simp [vf_upd]
theorem isC_c (x : Int32) : isC ((x.toUInt32 % 65536).toInt32) = true := decide_eq_true (by have h : x.toBitVec.toNat % 65536 < 65536 := Nat.mod_lt _ (by decide); have e := pk_char x; rw [e]; rw [pk_char, pk_tn (by omega), Nat.mod_mod])
def SC_addFrog (n : Nat) (Rl : Nat → Mem → Mem → Mem → Prop) : Prop := ∀ (j : Nat) (T M Mm : Mem) (x1 : Int32) (x2 : Int32), j < 512 → Rl j T M Mm → ∃ (q0 : RX Int32) (M' : Mem) (v : Int32) (Mm' : Mem), F_X9_addFrog n x1 x2 M = some (q0, M') ∧ F_X10_addFrog n x1 x2 Mm = some (v, Mm') ∧ (∀ k, q0 = .inl k → k = 2 ∨ k = 1 ∨ k = 0) ∧ Mm' 0 0 = cx [2, 1, 0] q0 ∧ (∀ w, q0 = .inr w → w = v) ∧ Rl (j + 1) T M' Mm'
set_option maxHeartbeats 4000000 in
theorem law_addFrog {p : Program} {l : Launch} (hl0 : l.stackTraces = false) {e : Env} {s : State} {m : MethodId} {args : Array Value} {below : List Frame} {meth : Method} {c : Code} {Q : State → Prop} (C0 : CallFix p m c code 9 s args LWg RL) {g : GG} (hC : CC g (AL s) s) {bs L : Nat} {xs : Nat → Int32} (hX : LX bs L xs s) {b bm : Nat → Nat} {q1 q2 n j ca sa : Nat} (hca : ca + 40 ≤ 603072) (hsa : sa + 3200 ≤ 7174250) {x5 : Int32} (hi : ∀ k : Int32, 0 ≤ k → k ≤ 4 → vp_in (x5 + k) L) (hj : j < 512) {Rl : Nat → Mem → Mem → Mem → Prop} (hS : SC_addFrog n Rl)
    {r : Nat → Nat} {T M Mm : Mem} {o : Nat → Int64} {d : Nat → UInt64} {J : va_W} (hRl : Rl j T M Mm) {H : Heap} {locs : List Loc} {ls : Array Slot} (hl : lv_has ls 9 [(5, .int x5), (0, .ref bs), (1, .ref (b 0)), (2, .ref (bm 0)), (3, .ref q1), (4, .ref q2)]) (hI : KI g (AL s) s (LWc g r b bm q1 q2 T M Mm o d J) H locs)
    (kk : ∀ (r : Nat → Nat) (T M Mm : Mem) (o : Nat → Int64) (d : Nat → UInt64) (J : va_W) (H : Heap) (locs : List Loc) (ls : Array Slot), Rl (j + 1) T M Mm → lv_has ls 9 [(5, .int x5), (0, .ref bs), (1, .ref (b 0)), (2, .ref (bm 0)), (3, .ref q1), (4, .ref q2)] → KI g (AL s) s (LWc g r b bm q1 q2 T M Mm o d J) H locs → W p l e room_1 s m args below meth c H locs (ca + 40) (sa + 3200) Q (F0 m 2968 ls [])) :
    W p l e room_1 s m args below meth c H locs ca sa Q (F0 m 272 ls []) := by
  refine lv_aload_n C0.1 C0.2.1 dL_law_272 rfl (lv_at hl 2 rfl) ?_
  refine lv_aload_n C0.1 C0.2.1 dL_law_273 rfl (lv_at hl 1 rfl) ?_
  refine lv_iload C0.1 C0.2.1 dL_law_274 (lv_at hl 0 rfl) ?_
  refine lv_iconst (v := 1) C0.1 C0.2.1 dL_law_276 (by decide) ?_
  refine lv_iadd C0.1 C0.2.1 dL_law_277 ?_
  refine l_xs C0 hX hI (hi 1 (by decide) (by decide)) dL_law_278 ?_
  refine lv_aload_n C0.1 C0.2.1 dL_law_279 rfl (lv_at hl 1 rfl) ?_
  refine lv_iload C0.1 C0.2.1 dL_law_280 (lv_at hl 0 rfl) ?_
  refine lv_iconst (v := 2) C0.1 C0.2.1 dL_law_282 (by decide) ?_
  refine lv_iadd C0.1 C0.2.1 dL_law_283 ?_
  refine l_xs C0 hX hI (hi 2 (by decide) (by decide)) dL_law_284 ?_
  refine lv_aload_n C0.1 C0.2.1 dL_law_285 rfl (lv_at hl 4 rfl) ?_
  obtain ⟨q0, M1, v, Mm1, h1, h2, h3, h5, h6, hRl1⟩ := hS j T M Mm (xs (ix (x5 + 1))) (xs (ix (x5 + 2))) hj hRl
  refine lc_h (As := [.ref (b 0), .int (xs (ix (x5 + 1))), .int (xs (ix (x5 + 2))), .ref q1]) C0 hC hI (h_addFrog l hl0 g (J ++ pw 10 (shM g bm) bm Mm) r b H.size n T M q1 q2 o d (xs (ix (x5 + 1))) (xs (ix (x5 + 2))) h1 h3) w_746 w_747 w_118 w_748 ⟨rfl, rfl⟩ hd_L_addFrog ⟨Nat.le_of_ble_eq_true rfl, Nat.le_of_ble_eq_true rfl⟩ rfl hl.1 rfl (Nat.le_of_ble_eq_true rfl) dL_law_286 ⟨by show _ ≤ 603072; omega, by show _ ≤ 7174250; omega⟩ (fun H locs hI => ?_)
  refine lv_istore (lv' := [(6, .int (cx [2, 1, 0] q0)), (5, .int x5), (0, .ref bs), (1, .ref (b 0)), (2, .ref (bm 0)), (3, .ref q1), (4, .ref q2)]) C0.1 C0.2.1 dL_law_289 hl (by decide) rfl (fun ls hl => ?_)
  refine lv_aload_n C0.1 C0.2.1 dL_law_291 rfl (lv_at hl 4 rfl) ?_
  refine lv_aload_n C0.1 C0.2.1 dL_law_292 rfl (lv_at hl 2 rfl) ?_
  refine lv_iload C0.1 C0.2.1 dL_law_293 (lv_at hl 1 rfl) ?_
  refine lv_iconst (v := 1) C0.1 C0.2.1 dL_law_295 (by decide) ?_
  refine lv_iadd C0.1 C0.2.1 dL_law_296 ?_
  refine l_xs C0 hX hI (hi 1 (by decide) (by decide)) dL_law_297 ?_
  refine lv_aload_n C0.1 C0.2.1 dL_law_298 rfl (lv_at hl 2 rfl) ?_
  refine lv_iload C0.1 C0.2.1 dL_law_299 (lv_at hl 1 rfl) ?_
  refine lv_iconst (v := 2) C0.1 C0.2.1 dL_law_301 (by decide) ?_
  refine lv_iadd C0.1 C0.2.1 dL_law_302 ?_
  refine l_xs C0 hX hI (hi 2 (by decide) (by decide)) dL_law_303 ?_
  refine lm_i (As := [.int (xs (ix (x5 + 1))), .int (xs (ix (x5 + 2)))]) C0 hC hI (c_X10_addFrog l g (xb g r T ++ (outs g q1 q2 (ou ciI o q0) d ++ J) ++ pw 372 (shI g r b) b M1) bm H.size n Mm (xs (ix (x5 + 1))) (xs (ix (x5 + 2))) h2) w_1756 w_1757 w_1758 w_132 w_1759 ⟨rfl, rfl⟩ hd_X10_addFrog ⟨Nat.le_of_ble_eq_true rfl, Nat.le_of_ble_eq_true rfl⟩ rfl rfl hl.1 rfl (Nat.le_of_ble_eq_true rfl) dL_law_304 ⟨by show _ ≤ 603072; omega, by show _ ≤ 7174250; omega⟩ (fun H locs hI => ?_)
  refine lv_istore (lv' := [(7, .int v), (6, .int (cx [2, 1, 0] q0)), (5, .int x5), (0, .ref bs), (1, .ref (b 0)), (2, .ref (bm 0)), (3, .ref q1), (4, .ref q2)]) C0.1 C0.2.1 dL_law_307 hl (by decide) rfl (fun ls hl => ?_)
  refine lv_aload_n C0.1 C0.2.1 dL_law_309 rfl (lv_at hl 5 rfl) ?_
  refine lm_i (As := []) C0 hC hI (c_X10_thrown l g (xb g r T ++ (outs g q1 q2 (ou ciI o q0) d ++ J) ++ pw 372 (shI g r b) b M1) bm H.size n Mm1 rfl) w_1752 w_1753 w_1754 w_132 w_1755 ⟨rfl, rfl⟩ hd_X10_thrown ⟨Nat.le_of_ble_eq_true rfl, Nat.le_of_ble_eq_true rfl⟩ rfl rfl hl.1 rfl (Nat.le_of_ble_eq_true rfl) dL_law_310 ⟨by show _ ≤ 603072; omega, by show _ ≤ 7174250; omega⟩ (fun H locs hI => ?_)
  refine lv_iload C0.1 C0.2.1 dL_law_313 (lv_at hl 1 rfl) ?_
  refine lv_icmp_eq (tgt := 320) C0.1 C0.2.1 dL_law_315 (by decide) (fun _ => ?_) (fun z => absurd h5 z)
  refine lv_iload C0.1 C0.2.1 dL_law_320 (lv_at hl 1 rfl) ?_
  refine lv_if_ne (tgt := 337) C0.1 C0.2.1 dL_law_322 (by decide) (fun cz => ?_) (fun cz => ?_)
  · skip
    refine lv_goto (tgt := 2968) C0.1 C0.2.1 dL_law_337 (by decide) ?_
    refine W.widen (k := ca + 40) (n := sa + 3200) (by omega) (by omega) ?_
    exact kk r T M1 Mm1 (ou ciI o q0) d J H locs ls hRl1 (lv_sub hl [2, 3, 4, 5, 6, 7] rfl) hI
  · obtain ⟨w, hw⟩ := cx_0 (by decide) cz
    refine lv_aload_n C0.1 C0.2.1 dL_law_325 rfl (lv_at hl 6 rfl) ?_
    refine lv_iconst (v := 0) C0.1 C0.2.1 dL_law_326 (by decide) ?_
    refine lc_lald C0 hC hI dL_law_327 ?_
    rw [our (f := ciI) hw, updL0]
    refine lv_iload C0.1 C0.2.1 dL_law_328 (lv_at hl 0 rfl) ?_
    refine lv_i2l C0.1 C0.2.1 dL_law_330 rfl ?_
    refine W.lcmp C0.1 C0.2.1 dL_law_331 ?_
    rw [show ciI w = v.toInt64 from by rw [h6 w hw], lg_eq]
    refine lv_if_eq (tgt := 337) C0.1 C0.2.1 dL_law_332 (by decide) (fun _ => ?_) (fun z => absurd rfl z)
    refine lv_goto (tgt := 2968) C0.1 C0.2.1 dL_law_337 (by decide) ?_
    refine W.widen (k := ca + 40) (n := sa + 3200) (by omega) (by omega) ?_
    exact kk r T M1 Mm1 (ou ciI o q0) d J H locs ls hRl1 (lv_sub hl [2, 3, 4, 5, 6, 7] rfl) hI

def SC_addPad (n : Nat) (Rl : Nat → Mem → Mem → Mem → Prop) : Prop := ∀ (j : Nat) (T M Mm : Mem) (x1 : Int32), j < 512 → Rl j T M Mm → ∃ (q0 : RX Int32) (M' : Mem) (v : Int32) (Mm' : Mem), F_X9_addPad n x1 M = some (q0, M') ∧ F_X10_addPad n x1 Mm = some (v, Mm') ∧ (∀ k, q0 = .inl k → k = 1 ∨ k = 0) ∧ Mm' 0 0 = cx [1, 0] q0 ∧ (∀ w, q0 = .inr w → w = v) ∧ Rl (j + 1) T M' Mm'
set_option maxHeartbeats 4000000 in
theorem law_addPad {p : Program} {l : Launch} (hl0 : l.stackTraces = false) {e : Env} {s : State} {m : MethodId} {args : Array Value} {below : List Frame} {meth : Method} {c : Code} {Q : State → Prop} (C0 : CallFix p m c code 9 s args LWg RL) {g : GG} (hC : CC g (AL s) s) {bs L : Nat} {xs : Nat → Int32} (hX : LX bs L xs s) {b bm : Nat → Nat} {q1 q2 n j ca sa : Nat} (hca : ca + 40 ≤ 603072) (hsa : sa + 3200 ≤ 7174250) {x5 : Int32} (hi : ∀ k : Int32, 0 ≤ k → k ≤ 4 → vp_in (x5 + k) L) (hj : j < 512) {Rl : Nat → Mem → Mem → Mem → Prop} (hS : SC_addPad n Rl)
    {r : Nat → Nat} {T M Mm : Mem} {o : Nat → Int64} {d : Nat → UInt64} {J : va_W} (hRl : Rl j T M Mm) {H : Heap} {locs : List Loc} {ls : Array Slot} (hl : lv_has ls 9 [(5, .int x5), (0, .ref bs), (1, .ref (b 0)), (2, .ref (bm 0)), (3, .ref q1), (4, .ref q2)]) (hI : KI g (AL s) s (LWc g r b bm q1 q2 T M Mm o d J) H locs)
    (kk : ∀ (r : Nat → Nat) (T M Mm : Mem) (o : Nat → Int64) (d : Nat → UInt64) (J : va_W) (H : Heap) (locs : List Loc) (ls : Array Slot), Rl (j + 1) T M Mm → lv_has ls 9 [(5, .int x5), (0, .ref bs), (1, .ref (b 0)), (2, .ref (bm 0)), (3, .ref q1), (4, .ref q2)] → KI g (AL s) s (LWc g r b bm q1 q2 T M Mm o d J) H locs → W p l e room_1 s m args below meth c H locs (ca + 40) (sa + 3200) Q (F0 m 2968 ls [])) :
    W p l e room_1 s m args below meth c H locs ca sa Q (F0 m 340 ls []) := by
  refine lv_aload_n C0.1 C0.2.1 dL_law_340 rfl (lv_at hl 2 rfl) ?_
  refine lv_aload_n C0.1 C0.2.1 dL_law_341 rfl (lv_at hl 1 rfl) ?_
  refine lv_iload C0.1 C0.2.1 dL_law_342 (lv_at hl 0 rfl) ?_
  refine lv_iconst (v := 1) C0.1 C0.2.1 dL_law_344 (by decide) ?_
  refine lv_iadd C0.1 C0.2.1 dL_law_345 ?_
  refine l_xs C0 hX hI (hi 1 (by decide) (by decide)) dL_law_346 ?_
  refine lv_aload_n C0.1 C0.2.1 dL_law_347 rfl (lv_at hl 4 rfl) ?_
  obtain ⟨q0, M1, v, Mm1, h1, h2, h3, h5, h6, hRl1⟩ := hS j T M Mm (xs (ix (x5 + 1))) hj hRl
  refine lc_h (As := [.ref (b 0), .int (xs (ix (x5 + 1))), .ref q1]) C0 hC hI (h_addPad l hl0 g (J ++ pw 10 (shM g bm) bm Mm) r b H.size n T M q1 q2 o d (xs (ix (x5 + 1))) h1 h3) w_795 w_796 w_118 w_797 ⟨rfl, rfl⟩ hd_L_addPad ⟨Nat.le_of_ble_eq_true rfl, Nat.le_of_ble_eq_true rfl⟩ rfl hl.1 rfl (Nat.le_of_ble_eq_true rfl) dL_law_348 ⟨by show _ ≤ 603072; omega, by show _ ≤ 7174250; omega⟩ (fun H locs hI => ?_)
  refine lv_istore (lv' := [(6, .int (cx [1, 0] q0)), (5, .int x5), (0, .ref bs), (1, .ref (b 0)), (2, .ref (bm 0)), (3, .ref q1), (4, .ref q2)]) C0.1 C0.2.1 dL_law_351 hl (by decide) rfl (fun ls hl => ?_)
  refine lv_aload_n C0.1 C0.2.1 dL_law_353 rfl (lv_at hl 4 rfl) ?_
  refine lv_aload_n C0.1 C0.2.1 dL_law_354 rfl (lv_at hl 2 rfl) ?_
  refine lv_iload C0.1 C0.2.1 dL_law_355 (lv_at hl 1 rfl) ?_
  refine lv_iconst (v := 1) C0.1 C0.2.1 dL_law_357 (by decide) ?_
  refine lv_iadd C0.1 C0.2.1 dL_law_358 ?_
  refine l_xs C0 hX hI (hi 1 (by decide) (by decide)) dL_law_359 ?_
  refine lm_i (As := [.int (xs (ix (x5 + 1)))]) C0 hC hI (c_X10_addPad l g (xb g r T ++ (outs g q1 q2 (ou ciI o q0) d ++ J) ++ pw 372 (shI g r b) b M1) bm H.size n Mm (xs (ix (x5 + 1))) h2) w_1782 w_1783 w_1784 w_132 w_1785 ⟨rfl, rfl⟩ hd_X10_addPad ⟨Nat.le_of_ble_eq_true rfl, Nat.le_of_ble_eq_true rfl⟩ rfl rfl hl.1 rfl (Nat.le_of_ble_eq_true rfl) dL_law_360 ⟨by show _ ≤ 603072; omega, by show _ ≤ 7174250; omega⟩ (fun H locs hI => ?_)
  refine lv_istore (lv' := [(7, .int v), (6, .int (cx [1, 0] q0)), (5, .int x5), (0, .ref bs), (1, .ref (b 0)), (2, .ref (bm 0)), (3, .ref q1), (4, .ref q2)]) C0.1 C0.2.1 dL_law_363 hl (by decide) rfl (fun ls hl => ?_)
  refine lv_aload_n C0.1 C0.2.1 dL_law_365 rfl (lv_at hl 5 rfl) ?_
  refine lm_i (As := []) C0 hC hI (c_X10_thrown l g (xb g r T ++ (outs g q1 q2 (ou ciI o q0) d ++ J) ++ pw 372 (shI g r b) b M1) bm H.size n Mm1 rfl) w_1752 w_1753 w_1754 w_132 w_1755 ⟨rfl, rfl⟩ hd_X10_thrown ⟨Nat.le_of_ble_eq_true rfl, Nat.le_of_ble_eq_true rfl⟩ rfl rfl hl.1 rfl (Nat.le_of_ble_eq_true rfl) dL_law_366 ⟨by show _ ≤ 603072; omega, by show _ ≤ 7174250; omega⟩ (fun H locs hI => ?_)
  refine lv_iload C0.1 C0.2.1 dL_law_369 (lv_at hl 1 rfl) ?_
  refine lv_icmp_eq (tgt := 376) C0.1 C0.2.1 dL_law_371 (by decide) (fun _ => ?_) (fun z => absurd h5 z)
  refine lv_iload C0.1 C0.2.1 dL_law_376 (lv_at hl 1 rfl) ?_
  refine lv_if_ne (tgt := 393) C0.1 C0.2.1 dL_law_378 (by decide) (fun cz => ?_) (fun cz => ?_)
  · skip
    refine lv_goto (tgt := 2968) C0.1 C0.2.1 dL_law_393 (by decide) ?_
    refine W.widen (k := ca + 40) (n := sa + 3200) (by omega) (by omega) ?_
    exact kk r T M1 Mm1 (ou ciI o q0) d J H locs ls hRl1 (lv_sub hl [2, 3, 4, 5, 6, 7] rfl) hI
  · obtain ⟨w, hw⟩ := cx_0 (by decide) cz
    refine lv_aload_n C0.1 C0.2.1 dL_law_381 rfl (lv_at hl 6 rfl) ?_
    refine lv_iconst (v := 0) C0.1 C0.2.1 dL_law_382 (by decide) ?_
    refine lc_lald C0 hC hI dL_law_383 ?_
    rw [our (f := ciI) hw, updL0]
    refine lv_iload C0.1 C0.2.1 dL_law_384 (lv_at hl 0 rfl) ?_
    refine lv_i2l C0.1 C0.2.1 dL_law_386 rfl ?_
    refine W.lcmp C0.1 C0.2.1 dL_law_387 ?_
    rw [show ciI w = v.toInt64 from by rw [h6 w hw], lg_eq]
    refine lv_if_eq (tgt := 393) C0.1 C0.2.1 dL_law_388 (by decide) (fun _ => ?_) (fun z => absurd rfl z)
    refine lv_goto (tgt := 2968) C0.1 C0.2.1 dL_law_393 (by decide) ?_
    refine W.widen (k := ca + 40) (n := sa + 3200) (by omega) (by omega) ?_
    exact kk r T M1 Mm1 (ou ciI o q0) d J H locs ls hRl1 (lv_sub hl [2, 3, 4, 5, 6, 7] rfl) hI

def SC_hop (n : Nat) (Rl : Nat → Mem → Mem → Mem → Prop) : Prop := ∀ (j : Nat) (T M Mm : Mem) (x1 : Int32) (x2 : Int32), j < 512 → Rl j T M Mm → ∃ (q0 : RX Int32) (M' : Mem) (v : Int32) (Mm' : Mem), F_X9_hop n x1 x2 M = some (q0, M') ∧ F_X10_hop n x1 x2 Mm = some (v, Mm') ∧ (∀ k, q0 = .inl k → k = 2 ∨ k = 0) ∧ Mm' 0 0 = cx [2, 0] q0 ∧ (∀ w, q0 = .inr w → w = v) ∧ Rl (j + 1) T M' Mm'
set_option maxHeartbeats 4000000 in
theorem law_hop {p : Program} {l : Launch} (hl0 : l.stackTraces = false) {e : Env} {s : State} {m : MethodId} {args : Array Value} {below : List Frame} {meth : Method} {c : Code} {Q : State → Prop} (C0 : CallFix p m c code 9 s args LWg RL) {g : GG} (hC : CC g (AL s) s) {bs L : Nat} {xs : Nat → Int32} (hX : LX bs L xs s) {b bm : Nat → Nat} {q1 q2 n j ca sa : Nat} (hca : ca + 40 ≤ 603072) (hsa : sa + 3200 ≤ 7174250) {x5 : Int32} (hi : ∀ k : Int32, 0 ≤ k → k ≤ 4 → vp_in (x5 + k) L) (hj : j < 512) {Rl : Nat → Mem → Mem → Mem → Prop} (hS : SC_hop n Rl)
    {r : Nat → Nat} {T M Mm : Mem} {o : Nat → Int64} {d : Nat → UInt64} {J : va_W} (hRl : Rl j T M Mm) {H : Heap} {locs : List Loc} {ls : Array Slot} (hl : lv_has ls 9 [(5, .int x5), (0, .ref bs), (1, .ref (b 0)), (2, .ref (bm 0)), (3, .ref q1), (4, .ref q2)]) (hI : KI g (AL s) s (LWc g r b bm q1 q2 T M Mm o d J) H locs)
    (kk : ∀ (r : Nat → Nat) (T M Mm : Mem) (o : Nat → Int64) (d : Nat → UInt64) (J : va_W) (H : Heap) (locs : List Loc) (ls : Array Slot), Rl (j + 1) T M Mm → lv_has ls 9 [(5, .int x5), (0, .ref bs), (1, .ref (b 0)), (2, .ref (bm 0)), (3, .ref q1), (4, .ref q2)] → KI g (AL s) s (LWc g r b bm q1 q2 T M Mm o d J) H locs → W p l e room_1 s m args below meth c H locs (ca + 40) (sa + 3200) Q (F0 m 2968 ls [])) :
    W p l e room_1 s m args below meth c H locs ca sa Q (F0 m 396 ls []) := by
  refine lv_aload_n C0.1 C0.2.1 dL_law_396 rfl (lv_at hl 2 rfl) ?_
  refine lv_aload_n C0.1 C0.2.1 dL_law_397 rfl (lv_at hl 1 rfl) ?_
  refine lv_iload C0.1 C0.2.1 dL_law_398 (lv_at hl 0 rfl) ?_
  refine lv_iconst (v := 1) C0.1 C0.2.1 dL_law_400 (by decide) ?_
  refine lv_iadd C0.1 C0.2.1 dL_law_401 ?_
  refine l_xs C0 hX hI (hi 1 (by decide) (by decide)) dL_law_402 ?_
  refine lv_aload_n C0.1 C0.2.1 dL_law_403 rfl (lv_at hl 1 rfl) ?_
  refine lv_iload C0.1 C0.2.1 dL_law_404 (lv_at hl 0 rfl) ?_
  refine lv_iconst (v := 2) C0.1 C0.2.1 dL_law_406 (by decide) ?_
  refine lv_iadd C0.1 C0.2.1 dL_law_407 ?_
  refine l_xs C0 hX hI (hi 2 (by decide) (by decide)) dL_law_408 ?_
  refine lv_aload_n C0.1 C0.2.1 dL_law_409 rfl (lv_at hl 4 rfl) ?_
  obtain ⟨q0, M1, v, Mm1, h1, h2, h3, h5, h6, hRl1⟩ := hS j T M Mm (xs (ix (x5 + 1))) (xs (ix (x5 + 2))) hj hRl
  refine lc_h (As := [.ref (b 0), .int (xs (ix (x5 + 1))), .int (xs (ix (x5 + 2))), .ref q1]) C0 hC hI (h_hop l hl0 g (J ++ pw 10 (shM g bm) bm Mm) r b H.size n T M q1 q2 o d (xs (ix (x5 + 1))) (xs (ix (x5 + 2))) h1 h3) w_812 w_813 w_118 w_814 ⟨rfl, rfl⟩ hd_L_hop ⟨Nat.le_of_ble_eq_true rfl, Nat.le_of_ble_eq_true rfl⟩ rfl hl.1 rfl (Nat.le_of_ble_eq_true rfl) dL_law_410 ⟨by show _ ≤ 603072; omega, by show _ ≤ 7174250; omega⟩ (fun H locs hI => ?_)
  refine lv_istore (lv' := [(6, .int (cx [2, 0] q0)), (5, .int x5), (0, .ref bs), (1, .ref (b 0)), (2, .ref (bm 0)), (3, .ref q1), (4, .ref q2)]) C0.1 C0.2.1 dL_law_413 hl (by decide) rfl (fun ls hl => ?_)
  refine lv_aload_n C0.1 C0.2.1 dL_law_415 rfl (lv_at hl 4 rfl) ?_
  refine lv_aload_n C0.1 C0.2.1 dL_law_416 rfl (lv_at hl 2 rfl) ?_
  refine lv_iload C0.1 C0.2.1 dL_law_417 (lv_at hl 1 rfl) ?_
  refine lv_iconst (v := 1) C0.1 C0.2.1 dL_law_419 (by decide) ?_
  refine lv_iadd C0.1 C0.2.1 dL_law_420 ?_
  refine l_xs C0 hX hI (hi 1 (by decide) (by decide)) dL_law_421 ?_
  refine lv_aload_n C0.1 C0.2.1 dL_law_422 rfl (lv_at hl 2 rfl) ?_
  refine lv_iload C0.1 C0.2.1 dL_law_423 (lv_at hl 1 rfl) ?_
  refine lv_iconst (v := 2) C0.1 C0.2.1 dL_law_425 (by decide) ?_
  refine lv_iadd C0.1 C0.2.1 dL_law_426 ?_
  refine l_xs C0 hX hI (hi 2 (by decide) (by decide)) dL_law_427 ?_
  refine lm_i (As := [.int (xs (ix (x5 + 1))), .int (xs (ix (x5 + 2)))]) C0 hC hI (c_X10_hop l g (xb g r T ++ (outs g q1 q2 (ou ciI o q0) d ++ J) ++ pw 372 (shI g r b) b M1) bm H.size n Mm (xs (ix (x5 + 1))) (xs (ix (x5 + 2))) h2) w_1790 w_1791 w_1792 w_132 w_1793 ⟨rfl, rfl⟩ hd_X10_hop ⟨Nat.le_of_ble_eq_true rfl, Nat.le_of_ble_eq_true rfl⟩ rfl rfl hl.1 rfl (Nat.le_of_ble_eq_true rfl) dL_law_428 ⟨by show _ ≤ 603072; omega, by show _ ≤ 7174250; omega⟩ (fun H locs hI => ?_)
  refine lv_istore (lv' := [(7, .int v), (6, .int (cx [2, 0] q0)), (5, .int x5), (0, .ref bs), (1, .ref (b 0)), (2, .ref (bm 0)), (3, .ref q1), (4, .ref q2)]) C0.1 C0.2.1 dL_law_431 hl (by decide) rfl (fun ls hl => ?_)
  refine lv_aload_n C0.1 C0.2.1 dL_law_433 rfl (lv_at hl 5 rfl) ?_
  refine lm_i (As := []) C0 hC hI (c_X10_thrown l g (xb g r T ++ (outs g q1 q2 (ou ciI o q0) d ++ J) ++ pw 372 (shI g r b) b M1) bm H.size n Mm1 rfl) w_1752 w_1753 w_1754 w_132 w_1755 ⟨rfl, rfl⟩ hd_X10_thrown ⟨Nat.le_of_ble_eq_true rfl, Nat.le_of_ble_eq_true rfl⟩ rfl rfl hl.1 rfl (Nat.le_of_ble_eq_true rfl) dL_law_434 ⟨by show _ ≤ 603072; omega, by show _ ≤ 7174250; omega⟩ (fun H locs hI => ?_)
  refine lv_iload C0.1 C0.2.1 dL_law_437 (lv_at hl 1 rfl) ?_
  refine lv_icmp_eq (tgt := 444) C0.1 C0.2.1 dL_law_439 (by decide) (fun _ => ?_) (fun z => absurd h5 z)
  refine lv_iload C0.1 C0.2.1 dL_law_444 (lv_at hl 1 rfl) ?_
  refine lv_if_ne (tgt := 461) C0.1 C0.2.1 dL_law_446 (by decide) (fun cz => ?_) (fun cz => ?_)
  · skip
    refine lv_goto (tgt := 2968) C0.1 C0.2.1 dL_law_461 (by decide) ?_
    refine W.widen (k := ca + 40) (n := sa + 3200) (by omega) (by omega) ?_
    exact kk r T M1 Mm1 (ou ciI o q0) d J H locs ls hRl1 (lv_sub hl [2, 3, 4, 5, 6, 7] rfl) hI
  · obtain ⟨w, hw⟩ := cx_0 (by decide) cz
    refine lv_aload_n C0.1 C0.2.1 dL_law_449 rfl (lv_at hl 6 rfl) ?_
    refine lv_iconst (v := 0) C0.1 C0.2.1 dL_law_450 (by decide) ?_
    refine lc_lald C0 hC hI dL_law_451 ?_
    rw [our (f := ciI) hw, updL0]
    refine lv_iload C0.1 C0.2.1 dL_law_452 (lv_at hl 0 rfl) ?_
    refine lv_i2l C0.1 C0.2.1 dL_law_454 rfl ?_
    refine W.lcmp C0.1 C0.2.1 dL_law_455 ?_
    rw [show ciI w = v.toInt64 from by rw [h6 w hw], lg_eq]
    refine lv_if_eq (tgt := 461) C0.1 C0.2.1 dL_law_456 (by decide) (fun _ => ?_) (fun z => absurd rfl z)
    refine lv_goto (tgt := 2968) C0.1 C0.2.1 dL_law_461 (by decide) ?_
    refine W.widen (k := ca + 40) (n := sa + 3200) (by omega) (by omega) ?_
    exact kk r T M1 Mm1 (ou ciI o q0) d J H locs ls hRl1 (lv_sub hl [2, 3, 4, 5, 6, 7] rfl) hI

def SC_dive (n : Nat) (Rl : Nat → Mem → Mem → Mem → Prop) : Prop := ∀ (j : Nat) (T M Mm : Mem) (x1 : Int32), j < 512 → Rl j T M Mm → ∃ (q0 : RX Int32) (M' : Mem) (v : Int32) (Mm' : Mem), F_X9_dive n x1 M = some (q0, M') ∧ F_X10_dive n x1 Mm = some (v, Mm') ∧ (∀ k, q0 = .inl k → k = 2 ∨ k = 0) ∧ Mm' 0 0 = cx [2, 0] q0 ∧ (∀ w, q0 = .inr w → w = v) ∧ Rl (j + 1) T M' Mm'
set_option maxHeartbeats 4000000 in
theorem law_dive {p : Program} {l : Launch} (hl0 : l.stackTraces = false) {e : Env} {s : State} {m : MethodId} {args : Array Value} {below : List Frame} {meth : Method} {c : Code} {Q : State → Prop} (C0 : CallFix p m c code 9 s args LWg RL) {g : GG} (hC : CC g (AL s) s) {bs L : Nat} {xs : Nat → Int32} (hX : LX bs L xs s) {b bm : Nat → Nat} {q1 q2 n j ca sa : Nat} (hca : ca + 40 ≤ 603072) (hsa : sa + 3200 ≤ 7174250) {x5 : Int32} (hi : ∀ k : Int32, 0 ≤ k → k ≤ 4 → vp_in (x5 + k) L) (hj : j < 512) {Rl : Nat → Mem → Mem → Mem → Prop} (hS : SC_dive n Rl)
    {r : Nat → Nat} {T M Mm : Mem} {o : Nat → Int64} {d : Nat → UInt64} {J : va_W} (hRl : Rl j T M Mm) {H : Heap} {locs : List Loc} {ls : Array Slot} (hl : lv_has ls 9 [(5, .int x5), (0, .ref bs), (1, .ref (b 0)), (2, .ref (bm 0)), (3, .ref q1), (4, .ref q2)]) (hI : KI g (AL s) s (LWc g r b bm q1 q2 T M Mm o d J) H locs)
    (kk : ∀ (r : Nat → Nat) (T M Mm : Mem) (o : Nat → Int64) (d : Nat → UInt64) (J : va_W) (H : Heap) (locs : List Loc) (ls : Array Slot), Rl (j + 1) T M Mm → lv_has ls 9 [(5, .int x5), (0, .ref bs), (1, .ref (b 0)), (2, .ref (bm 0)), (3, .ref q1), (4, .ref q2)] → KI g (AL s) s (LWc g r b bm q1 q2 T M Mm o d J) H locs → W p l e room_1 s m args below meth c H locs (ca + 40) (sa + 3200) Q (F0 m 2968 ls [])) :
    W p l e room_1 s m args below meth c H locs ca sa Q (F0 m 464 ls []) := by
  refine lv_aload_n C0.1 C0.2.1 dL_law_464 rfl (lv_at hl 2 rfl) ?_
  refine lv_aload_n C0.1 C0.2.1 dL_law_465 rfl (lv_at hl 1 rfl) ?_
  refine lv_iload C0.1 C0.2.1 dL_law_466 (lv_at hl 0 rfl) ?_
  refine lv_iconst (v := 1) C0.1 C0.2.1 dL_law_468 (by decide) ?_
  refine lv_iadd C0.1 C0.2.1 dL_law_469 ?_
  refine l_xs C0 hX hI (hi 1 (by decide) (by decide)) dL_law_470 ?_
  refine lv_aload_n C0.1 C0.2.1 dL_law_471 rfl (lv_at hl 4 rfl) ?_
  obtain ⟨q0, M1, v, Mm1, h1, h2, h3, h5, h6, hRl1⟩ := hS j T M Mm (xs (ix (x5 + 1))) hj hRl
  refine lc_h (As := [.ref (b 0), .int (xs (ix (x5 + 1))), .ref q1]) C0 hC hI (h_dive l hl0 g (J ++ pw 10 (shM g bm) bm Mm) r b H.size n T M q1 q2 o d (xs (ix (x5 + 1))) h1 h3) w_844 w_845 w_118 w_846 ⟨rfl, rfl⟩ hd_L_dive ⟨Nat.le_of_ble_eq_true rfl, Nat.le_of_ble_eq_true rfl⟩ rfl hl.1 rfl (Nat.le_of_ble_eq_true rfl) dL_law_472 ⟨by show _ ≤ 603072; omega, by show _ ≤ 7174250; omega⟩ (fun H locs hI => ?_)
  refine lv_istore (lv' := [(6, .int (cx [2, 0] q0)), (5, .int x5), (0, .ref bs), (1, .ref (b 0)), (2, .ref (bm 0)), (3, .ref q1), (4, .ref q2)]) C0.1 C0.2.1 dL_law_475 hl (by decide) rfl (fun ls hl => ?_)
  refine lv_aload_n C0.1 C0.2.1 dL_law_477 rfl (lv_at hl 4 rfl) ?_
  refine lv_aload_n C0.1 C0.2.1 dL_law_478 rfl (lv_at hl 2 rfl) ?_
  refine lv_iload C0.1 C0.2.1 dL_law_479 (lv_at hl 1 rfl) ?_
  refine lv_iconst (v := 1) C0.1 C0.2.1 dL_law_481 (by decide) ?_
  refine lv_iadd C0.1 C0.2.1 dL_law_482 ?_
  refine l_xs C0 hX hI (hi 1 (by decide) (by decide)) dL_law_483 ?_
  refine lm_i (As := [.int (xs (ix (x5 + 1)))]) C0 hC hI (c_X10_dive l g (xb g r T ++ (outs g q1 q2 (ou ciI o q0) d ++ J) ++ pw 372 (shI g r b) b M1) bm H.size n Mm (xs (ix (x5 + 1))) h2) w_1810 w_1811 w_1812 w_132 w_1813 ⟨rfl, rfl⟩ hd_X10_dive ⟨Nat.le_of_ble_eq_true rfl, Nat.le_of_ble_eq_true rfl⟩ rfl rfl hl.1 rfl (Nat.le_of_ble_eq_true rfl) dL_law_484 ⟨by show _ ≤ 603072; omega, by show _ ≤ 7174250; omega⟩ (fun H locs hI => ?_)
  refine lv_istore (lv' := [(7, .int v), (6, .int (cx [2, 0] q0)), (5, .int x5), (0, .ref bs), (1, .ref (b 0)), (2, .ref (bm 0)), (3, .ref q1), (4, .ref q2)]) C0.1 C0.2.1 dL_law_487 hl (by decide) rfl (fun ls hl => ?_)
  refine lv_aload_n C0.1 C0.2.1 dL_law_489 rfl (lv_at hl 5 rfl) ?_
  refine lm_i (As := []) C0 hC hI (c_X10_thrown l g (xb g r T ++ (outs g q1 q2 (ou ciI o q0) d ++ J) ++ pw 372 (shI g r b) b M1) bm H.size n Mm1 rfl) w_1752 w_1753 w_1754 w_132 w_1755 ⟨rfl, rfl⟩ hd_X10_thrown ⟨Nat.le_of_ble_eq_true rfl, Nat.le_of_ble_eq_true rfl⟩ rfl rfl hl.1 rfl (Nat.le_of_ble_eq_true rfl) dL_law_490 ⟨by show _ ≤ 603072; omega, by show _ ≤ 7174250; omega⟩ (fun H locs hI => ?_)
  refine lv_iload C0.1 C0.2.1 dL_law_493 (lv_at hl 1 rfl) ?_
  refine lv_icmp_eq (tgt := 500) C0.1 C0.2.1 dL_law_495 (by decide) (fun _ => ?_) (fun z => absurd h5 z)
  refine lv_iload C0.1 C0.2.1 dL_law_500 (lv_at hl 1 rfl) ?_
  refine lv_if_ne (tgt := 517) C0.1 C0.2.1 dL_law_502 (by decide) (fun cz => ?_) (fun cz => ?_)
  · skip
    refine lv_goto (tgt := 2968) C0.1 C0.2.1 dL_law_517 (by decide) ?_
    refine W.widen (k := ca + 40) (n := sa + 3200) (by omega) (by omega) ?_
    exact kk r T M1 Mm1 (ou ciI o q0) d J H locs ls hRl1 (lv_sub hl [2, 3, 4, 5, 6, 7] rfl) hI
  · obtain ⟨w, hw⟩ := cx_0 (by decide) cz
    refine lv_aload_n C0.1 C0.2.1 dL_law_505 rfl (lv_at hl 6 rfl) ?_
    refine lv_iconst (v := 0) C0.1 C0.2.1 dL_law_506 (by decide) ?_
    refine lc_lald C0 hC hI dL_law_507 ?_
    rw [our (f := ciI) hw, updL0]
    refine lv_iload C0.1 C0.2.1 dL_law_508 (lv_at hl 0 rfl) ?_
    refine lv_i2l C0.1 C0.2.1 dL_law_510 rfl ?_
    refine W.lcmp C0.1 C0.2.1 dL_law_511 ?_
    rw [show ciI w = v.toInt64 from by rw [h6 w hw], lg_eq]
    refine lv_if_eq (tgt := 517) C0.1 C0.2.1 dL_law_512 (by decide) (fun _ => ?_) (fun z => absurd rfl z)
    refine lv_goto (tgt := 2968) C0.1 C0.2.1 dL_law_517 (by decide) ?_
    refine W.widen (k := ca + 40) (n := sa + 3200) (by omega) (by omega) ?_
    exact kk r T M1 Mm1 (ou ciI o q0) d J H locs ls hRl1 (lv_sub hl [2, 3, 4, 5, 6, 7] rfl) hI

def SC_frogCount (n : Nat) (Rl : Nat → Mem → Mem → Mem → Prop) : Prop := ∀ (j : Nat) (T M Mm : Mem), j < 512 → Rl j T M Mm → ∃ (v : Int32) (Mm' : Mem), F_X9_frogCount n M = some v ∧ F_X10_frogCount n Mm = some (v, Mm') ∧ Rl (j + 1) T M Mm'
set_option maxHeartbeats 4000000 in
theorem law_frogCount {p : Program} {l : Launch} (hl0 : l.stackTraces = false) {e : Env} {s : State} {m : MethodId} {args : Array Value} {below : List Frame} {meth : Method} {c : Code} {Q : State → Prop} (C0 : CallFix p m c code 9 s args LWg RL) {g : GG} (hC : CC g (AL s) s) {bs L : Nat} {xs : Nat → Int32} (hX : LX bs L xs s) {b bm : Nat → Nat} {q1 q2 n j ca sa : Nat} (hca : ca + 40 ≤ 603072) (hsa : sa + 3200 ≤ 7174250) {x5 : Int32} (hi : ∀ k : Int32, 0 ≤ k → k ≤ 4 → vp_in (x5 + k) L) (hj : j < 512) {Rl : Nat → Mem → Mem → Mem → Prop} (hS : SC_frogCount n Rl)
    {r : Nat → Nat} {T M Mm : Mem} {o : Nat → Int64} {d : Nat → UInt64} {J : va_W} (hRl : Rl j T M Mm) {H : Heap} {locs : List Loc} {ls : Array Slot} (hl : lv_has ls 9 [(5, .int x5), (0, .ref bs), (1, .ref (b 0)), (2, .ref (bm 0)), (3, .ref q1), (4, .ref q2)]) (hI : KI g (AL s) s (LWc g r b bm q1 q2 T M Mm o d J) H locs)
    (kk : ∀ (r : Nat → Nat) (T M Mm : Mem) (o : Nat → Int64) (d : Nat → UInt64) (J : va_W) (H : Heap) (locs : List Loc) (ls : Array Slot), Rl (j + 1) T M Mm → lv_has ls 9 [(5, .int x5), (0, .ref bs), (1, .ref (b 0)), (2, .ref (bm 0)), (3, .ref q1), (4, .ref q2)] → KI g (AL s) s (LWc g r b bm q1 q2 T M Mm o d J) H locs → W p l e room_1 s m args below meth c H locs (ca + 40) (sa + 3200) Q (F0 m 2968 ls [])) :
    W p l e room_1 s m args below meth c H locs ca sa Q (F0 m 520 ls []) := by
  refine lv_aload_n C0.1 C0.2.1 dL_law_520 rfl (lv_at hl 2 rfl) ?_
  obtain ⟨v, Mm1, h1, h2, hRl1⟩ := hS j T M Mm hj hRl
  refine lc_i (As := []) C0 hC hI (c_X9_frogCount l g (xb g r T ++ (outs g q1 q2 o d ++ (J ++ pw 10 (shM g bm) bm Mm))) r b H.size n M h1) w_424 w_425 w_426 w_119 w_427 ⟨rfl, rfl⟩ hd_X9_frogCount ⟨Nat.le_of_ble_eq_true rfl, Nat.le_of_ble_eq_true rfl⟩ rfl rfl hl.1 rfl (Nat.le_of_ble_eq_true rfl) dL_law_521 ⟨by show _ ≤ 603072; omega, by show _ ≤ 7174250; omega⟩ (fun H locs hI => ?_)
  refine lv_aload_n C0.1 C0.2.1 dL_law_524 rfl (lv_at hl 3 rfl) ?_
  refine lm_i (As := []) C0 hC hI (c_X10_frogCount l g (xb g r T ++ (outs g q1 q2 o d ++ J) ++ pw 372 (shI g r b) b M) bm H.size n Mm h2) w_1822 w_1823 w_1824 w_132 w_1825 ⟨rfl, rfl⟩ hd_X10_frogCount ⟨Nat.le_of_ble_eq_true rfl, Nat.le_of_ble_eq_true rfl⟩ rfl rfl hl.1 rfl (Nat.le_of_ble_eq_true rfl) dL_law_525 ⟨by show _ ≤ 603072; omega, by show _ ≤ 7174250; omega⟩ (fun H locs hI => ?_)
  refine lv_icmp_eq (tgt := 2968) C0.1 C0.2.1 dL_law_528 (by decide) (fun _ => ?_) (fun z => absurd rfl z)
  refine W.widen (k := ca + 40) (n := sa + 3200) (by omega) (by omega) ?_
  exact kk r T M Mm1 o d J H locs ls hRl1 (lv_sub hl [0, 1, 2, 3, 4, 5] rfl) hI

def SC_pondOf (n : Nat) (Rl : Nat → Mem → Mem → Mem → Prop) : Prop := ∀ (j : Nat) (T M Mm : Mem) (x1 : Int32), j < 512 → Rl j T M Mm → ∃ (q0 : RX Int32) (v : Int32) (Mm' : Mem), F_X9_pondOf n x1 M = some q0 ∧ F_X10_pondOf n x1 Mm = some (v, Mm') ∧ (∀ k, q0 = .inl k → k = 2) ∧ Mm' 0 0 = cx [2] q0 ∧ (∀ w, q0 = .inr w → w = v) ∧ Rl (j + 1) T M Mm'
set_option maxHeartbeats 4000000 in
theorem law_pondOf {p : Program} {l : Launch} (hl0 : l.stackTraces = false) {e : Env} {s : State} {m : MethodId} {args : Array Value} {below : List Frame} {meth : Method} {c : Code} {Q : State → Prop} (C0 : CallFix p m c code 9 s args LWg RL) {g : GG} (hC : CC g (AL s) s) {bs L : Nat} {xs : Nat → Int32} (hX : LX bs L xs s) {b bm : Nat → Nat} {q1 q2 n j ca sa : Nat} (hca : ca + 40 ≤ 603072) (hsa : sa + 3200 ≤ 7174250) {x5 : Int32} (hi : ∀ k : Int32, 0 ≤ k → k ≤ 4 → vp_in (x5 + k) L) (hj : j < 512) {Rl : Nat → Mem → Mem → Mem → Prop} (hS : SC_pondOf n Rl)
    {r : Nat → Nat} {T M Mm : Mem} {o : Nat → Int64} {d : Nat → UInt64} {J : va_W} (hRl : Rl j T M Mm) {H : Heap} {locs : List Loc} {ls : Array Slot} (hl : lv_has ls 9 [(5, .int x5), (0, .ref bs), (1, .ref (b 0)), (2, .ref (bm 0)), (3, .ref q1), (4, .ref q2)]) (hI : KI g (AL s) s (LWc g r b bm q1 q2 T M Mm o d J) H locs)
    (kk : ∀ (r : Nat → Nat) (T M Mm : Mem) (o : Nat → Int64) (d : Nat → UInt64) (J : va_W) (H : Heap) (locs : List Loc) (ls : Array Slot), Rl (j + 1) T M Mm → lv_has ls 9 [(5, .int x5), (0, .ref bs), (1, .ref (b 0)), (2, .ref (bm 0)), (3, .ref q1), (4, .ref q2)] → KI g (AL s) s (LWc g r b bm q1 q2 T M Mm o d J) H locs → W p l e room_1 s m args below meth c H locs (ca + 40) (sa + 3200) Q (F0 m 2968 ls [])) :
    W p l e room_1 s m args below meth c H locs ca sa Q (F0 m 533 ls []) := by
  refine lv_aload_n C0.1 C0.2.1 dL_law_533 rfl (lv_at hl 2 rfl) ?_
  refine lv_aload_n C0.1 C0.2.1 dL_law_534 rfl (lv_at hl 1 rfl) ?_
  refine lv_iload C0.1 C0.2.1 dL_law_535 (lv_at hl 0 rfl) ?_
  refine lv_iconst (v := 1) C0.1 C0.2.1 dL_law_537 (by decide) ?_
  refine lv_iadd C0.1 C0.2.1 dL_law_538 ?_
  refine l_xs C0 hX hI (hi 1 (by decide) (by decide)) dL_law_539 ?_
  refine lv_aload_n C0.1 C0.2.1 dL_law_540 rfl (lv_at hl 4 rfl) ?_
  obtain ⟨q0, v, Mm1, h1, h2, h3, h5, h6, hRl1⟩ := hS j T M Mm (xs (ix (x5 + 1))) hj hRl
  refine lc_h (As := [.ref (b 0), .int (xs (ix (x5 + 1))), .ref q1]) C0 hC hI (h_pondOf l hl0 g (J ++ pw 10 (shM g bm) bm Mm) r b H.size n T M q1 q2 o d (xs (ix (x5 + 1))) h1 h3) w_865 w_866 w_118 w_867 ⟨rfl, rfl⟩ hd_L_pondOf ⟨Nat.le_of_ble_eq_true rfl, Nat.le_of_ble_eq_true rfl⟩ rfl hl.1 rfl (Nat.le_of_ble_eq_true rfl) dL_law_541 ⟨by show _ ≤ 603072; omega, by show _ ≤ 7174250; omega⟩ (fun H locs hI => ?_)
  refine lv_istore (lv' := [(6, .int (cx [2] q0)), (5, .int x5), (0, .ref bs), (1, .ref (b 0)), (2, .ref (bm 0)), (3, .ref q1), (4, .ref q2)]) C0.1 C0.2.1 dL_law_544 hl (by decide) rfl (fun ls hl => ?_)
  refine lv_aload_n C0.1 C0.2.1 dL_law_546 rfl (lv_at hl 4 rfl) ?_
  refine lv_aload_n C0.1 C0.2.1 dL_law_547 rfl (lv_at hl 2 rfl) ?_
  refine lv_iload C0.1 C0.2.1 dL_law_548 (lv_at hl 1 rfl) ?_
  refine lv_iconst (v := 1) C0.1 C0.2.1 dL_law_550 (by decide) ?_
  refine lv_iadd C0.1 C0.2.1 dL_law_551 ?_
  refine l_xs C0 hX hI (hi 1 (by decide) (by decide)) dL_law_552 ?_
  refine lm_i (As := [.int (xs (ix (x5 + 1)))]) C0 hC hI (c_X10_pondOf l g (xb g r T ++ (outs g q1 q2 (ou ciI o q0) d ++ J) ++ pw 372 (shI g r b) b M) bm H.size n Mm (xs (ix (x5 + 1))) h2) w_1830 w_1831 w_1832 w_132 w_1833 ⟨rfl, rfl⟩ hd_X10_pondOf ⟨Nat.le_of_ble_eq_true rfl, Nat.le_of_ble_eq_true rfl⟩ rfl rfl hl.1 rfl (Nat.le_of_ble_eq_true rfl) dL_law_553 ⟨by show _ ≤ 603072; omega, by show _ ≤ 7174250; omega⟩ (fun H locs hI => ?_)
  refine lv_istore (lv' := [(7, .int v), (6, .int (cx [2] q0)), (5, .int x5), (0, .ref bs), (1, .ref (b 0)), (2, .ref (bm 0)), (3, .ref q1), (4, .ref q2)]) C0.1 C0.2.1 dL_law_556 hl (by decide) rfl (fun ls hl => ?_)
  refine lv_aload_n C0.1 C0.2.1 dL_law_558 rfl (lv_at hl 5 rfl) ?_
  refine lm_i (As := []) C0 hC hI (c_X10_thrown l g (xb g r T ++ (outs g q1 q2 (ou ciI o q0) d ++ J) ++ pw 372 (shI g r b) b M) bm H.size n Mm1 rfl) w_1752 w_1753 w_1754 w_132 w_1755 ⟨rfl, rfl⟩ hd_X10_thrown ⟨Nat.le_of_ble_eq_true rfl, Nat.le_of_ble_eq_true rfl⟩ rfl rfl hl.1 rfl (Nat.le_of_ble_eq_true rfl) dL_law_559 ⟨by show _ ≤ 603072; omega, by show _ ≤ 7174250; omega⟩ (fun H locs hI => ?_)
  refine lv_iload C0.1 C0.2.1 dL_law_562 (lv_at hl 1 rfl) ?_
  refine lv_icmp_eq (tgt := 569) C0.1 C0.2.1 dL_law_564 (by decide) (fun _ => ?_) (fun z => absurd h5 z)
  refine lv_iload C0.1 C0.2.1 dL_law_569 (lv_at hl 1 rfl) ?_
  refine lv_if_ne (tgt := 586) C0.1 C0.2.1 dL_law_571 (by decide) (fun cz => ?_) (fun cz => ?_)
  · skip
    refine lv_goto (tgt := 2968) C0.1 C0.2.1 dL_law_586 (by decide) ?_
    refine W.widen (k := ca + 40) (n := sa + 3200) (by omega) (by omega) ?_
    exact kk r T M Mm1 (ou ciI o q0) d J H locs ls hRl1 (lv_sub hl [2, 3, 4, 5, 6, 7] rfl) hI
  · obtain ⟨w, hw⟩ := cx_0 (by decide) cz
    refine lv_aload_n C0.1 C0.2.1 dL_law_574 rfl (lv_at hl 6 rfl) ?_
    refine lv_iconst (v := 0) C0.1 C0.2.1 dL_law_575 (by decide) ?_
    refine lc_lald C0 hC hI dL_law_576 ?_
    rw [our (f := ciI) hw, updL0]
    refine lv_iload C0.1 C0.2.1 dL_law_577 (lv_at hl 0 rfl) ?_
    refine lv_i2l C0.1 C0.2.1 dL_law_579 rfl ?_
    refine W.lcmp C0.1 C0.2.1 dL_law_580 ?_
    rw [show ciI w = v.toInt64 from by rw [h6 w hw], lg_eq]
    refine lv_if_eq (tgt := 586) C0.1 C0.2.1 dL_law_581 (by decide) (fun _ => ?_) (fun z => absurd rfl z)
    refine lv_goto (tgt := 2968) C0.1 C0.2.1 dL_law_586 (by decide) ?_
    refine W.widen (k := ca + 40) (n := sa + 3200) (by omega) (by omega) ?_
    exact kk r T M Mm1 (ou ciI o q0) d J H locs ls hRl1 (lv_sub hl [2, 3, 4, 5, 6, 7] rfl) hI

def SC_weightOf (n : Nat) (Rl : Nat → Mem → Mem → Mem → Prop) : Prop := ∀ (j : Nat) (T M Mm : Mem) (x1 : Int32), j < 512 → Rl j T M Mm → ∃ (q0 : RX Int32) (v : Int32) (Mm' : Mem), F_X9_weightOf n x1 M = some q0 ∧ F_X10_weightOf n x1 Mm = some (v, Mm') ∧ (∀ k, q0 = .inl k → k = 2) ∧ Mm' 0 0 = cx [2] q0 ∧ (∀ w, q0 = .inr w → w = v) ∧ Rl (j + 1) T M Mm'
set_option maxHeartbeats 4000000 in
theorem law_weightOf {p : Program} {l : Launch} (hl0 : l.stackTraces = false) {e : Env} {s : State} {m : MethodId} {args : Array Value} {below : List Frame} {meth : Method} {c : Code} {Q : State → Prop} (C0 : CallFix p m c code 9 s args LWg RL) {g : GG} (hC : CC g (AL s) s) {bs L : Nat} {xs : Nat → Int32} (hX : LX bs L xs s) {b bm : Nat → Nat} {q1 q2 n j ca sa : Nat} (hca : ca + 40 ≤ 603072) (hsa : sa + 3200 ≤ 7174250) {x5 : Int32} (hi : ∀ k : Int32, 0 ≤ k → k ≤ 4 → vp_in (x5 + k) L) (hj : j < 512) {Rl : Nat → Mem → Mem → Mem → Prop} (hS : SC_weightOf n Rl)
    {r : Nat → Nat} {T M Mm : Mem} {o : Nat → Int64} {d : Nat → UInt64} {J : va_W} (hRl : Rl j T M Mm) {H : Heap} {locs : List Loc} {ls : Array Slot} (hl : lv_has ls 9 [(5, .int x5), (0, .ref bs), (1, .ref (b 0)), (2, .ref (bm 0)), (3, .ref q1), (4, .ref q2)]) (hI : KI g (AL s) s (LWc g r b bm q1 q2 T M Mm o d J) H locs)
    (kk : ∀ (r : Nat → Nat) (T M Mm : Mem) (o : Nat → Int64) (d : Nat → UInt64) (J : va_W) (H : Heap) (locs : List Loc) (ls : Array Slot), Rl (j + 1) T M Mm → lv_has ls 9 [(5, .int x5), (0, .ref bs), (1, .ref (b 0)), (2, .ref (bm 0)), (3, .ref q1), (4, .ref q2)] → KI g (AL s) s (LWc g r b bm q1 q2 T M Mm o d J) H locs → W p l e room_1 s m args below meth c H locs (ca + 40) (sa + 3200) Q (F0 m 2968 ls [])) :
    W p l e room_1 s m args below meth c H locs ca sa Q (F0 m 589 ls []) := by
  refine lv_aload_n C0.1 C0.2.1 dL_law_589 rfl (lv_at hl 2 rfl) ?_
  refine lv_aload_n C0.1 C0.2.1 dL_law_590 rfl (lv_at hl 1 rfl) ?_
  refine lv_iload C0.1 C0.2.1 dL_law_591 (lv_at hl 0 rfl) ?_
  refine lv_iconst (v := 1) C0.1 C0.2.1 dL_law_593 (by decide) ?_
  refine lv_iadd C0.1 C0.2.1 dL_law_594 ?_
  refine l_xs C0 hX hI (hi 1 (by decide) (by decide)) dL_law_595 ?_
  refine lv_aload_n C0.1 C0.2.1 dL_law_596 rfl (lv_at hl 4 rfl) ?_
  obtain ⟨q0, v, Mm1, h1, h2, h3, h5, h6, hRl1⟩ := hS j T M Mm (xs (ix (x5 + 1))) hj hRl
  refine lc_h (As := [.ref (b 0), .int (xs (ix (x5 + 1))), .ref q1]) C0 hC hI (h_weightOf l hl0 g (J ++ pw 10 (shM g bm) bm Mm) r b H.size n T M q1 q2 o d (xs (ix (x5 + 1))) h1 h3) w_878 w_879 w_118 w_880 ⟨rfl, rfl⟩ hd_L_weightOf ⟨Nat.le_of_ble_eq_true rfl, Nat.le_of_ble_eq_true rfl⟩ rfl hl.1 rfl (Nat.le_of_ble_eq_true rfl) dL_law_597 ⟨by show _ ≤ 603072; omega, by show _ ≤ 7174250; omega⟩ (fun H locs hI => ?_)
  refine lv_istore (lv' := [(6, .int (cx [2] q0)), (5, .int x5), (0, .ref bs), (1, .ref (b 0)), (2, .ref (bm 0)), (3, .ref q1), (4, .ref q2)]) C0.1 C0.2.1 dL_law_600 hl (by decide) rfl (fun ls hl => ?_)
  refine lv_aload_n C0.1 C0.2.1 dL_law_602 rfl (lv_at hl 4 rfl) ?_
  refine lv_aload_n C0.1 C0.2.1 dL_law_603 rfl (lv_at hl 2 rfl) ?_
  refine lv_iload C0.1 C0.2.1 dL_law_604 (lv_at hl 1 rfl) ?_
  refine lv_iconst (v := 1) C0.1 C0.2.1 dL_law_606 (by decide) ?_
  refine lv_iadd C0.1 C0.2.1 dL_law_607 ?_
  refine l_xs C0 hX hI (hi 1 (by decide) (by decide)) dL_law_608 ?_
  refine lm_i (As := [.int (xs (ix (x5 + 1)))]) C0 hC hI (c_X10_weightOf l g (xb g r T ++ (outs g q1 q2 (ou ciI o q0) d ++ J) ++ pw 372 (shI g r b) b M) bm H.size n Mm (xs (ix (x5 + 1))) h2) w_1838 w_1839 w_1840 w_132 w_1841 ⟨rfl, rfl⟩ hd_X10_weightOf ⟨Nat.le_of_ble_eq_true rfl, Nat.le_of_ble_eq_true rfl⟩ rfl rfl hl.1 rfl (Nat.le_of_ble_eq_true rfl) dL_law_609 ⟨by show _ ≤ 603072; omega, by show _ ≤ 7174250; omega⟩ (fun H locs hI => ?_)
  refine lv_istore (lv' := [(7, .int v), (6, .int (cx [2] q0)), (5, .int x5), (0, .ref bs), (1, .ref (b 0)), (2, .ref (bm 0)), (3, .ref q1), (4, .ref q2)]) C0.1 C0.2.1 dL_law_612 hl (by decide) rfl (fun ls hl => ?_)
  refine lv_aload_n C0.1 C0.2.1 dL_law_614 rfl (lv_at hl 5 rfl) ?_
  refine lm_i (As := []) C0 hC hI (c_X10_thrown l g (xb g r T ++ (outs g q1 q2 (ou ciI o q0) d ++ J) ++ pw 372 (shI g r b) b M) bm H.size n Mm1 rfl) w_1752 w_1753 w_1754 w_132 w_1755 ⟨rfl, rfl⟩ hd_X10_thrown ⟨Nat.le_of_ble_eq_true rfl, Nat.le_of_ble_eq_true rfl⟩ rfl rfl hl.1 rfl (Nat.le_of_ble_eq_true rfl) dL_law_615 ⟨by show _ ≤ 603072; omega, by show _ ≤ 7174250; omega⟩ (fun H locs hI => ?_)
  refine lv_iload C0.1 C0.2.1 dL_law_618 (lv_at hl 1 rfl) ?_
  refine lv_icmp_eq (tgt := 625) C0.1 C0.2.1 dL_law_620 (by decide) (fun _ => ?_) (fun z => absurd h5 z)
  refine lv_iload C0.1 C0.2.1 dL_law_625 (lv_at hl 1 rfl) ?_
  refine lv_if_ne (tgt := 642) C0.1 C0.2.1 dL_law_627 (by decide) (fun cz => ?_) (fun cz => ?_)
  · skip
    refine lv_goto (tgt := 2968) C0.1 C0.2.1 dL_law_642 (by decide) ?_
    refine W.widen (k := ca + 40) (n := sa + 3200) (by omega) (by omega) ?_
    exact kk r T M Mm1 (ou ciI o q0) d J H locs ls hRl1 (lv_sub hl [2, 3, 4, 5, 6, 7] rfl) hI
  · obtain ⟨w, hw⟩ := cx_0 (by decide) cz
    refine lv_aload_n C0.1 C0.2.1 dL_law_630 rfl (lv_at hl 6 rfl) ?_
    refine lv_iconst (v := 0) C0.1 C0.2.1 dL_law_631 (by decide) ?_
    refine lc_lald C0 hC hI dL_law_632 ?_
    rw [our (f := ciI) hw, updL0]
    refine lv_iload C0.1 C0.2.1 dL_law_633 (lv_at hl 0 rfl) ?_
    refine lv_i2l C0.1 C0.2.1 dL_law_635 rfl ?_
    refine W.lcmp C0.1 C0.2.1 dL_law_636 ?_
    rw [show ciI w = v.toInt64 from by rw [h6 w hw], lg_eq]
    refine lv_if_eq (tgt := 642) C0.1 C0.2.1 dL_law_637 (by decide) (fun _ => ?_) (fun z => absurd rfl z)
    refine lv_goto (tgt := 2968) C0.1 C0.2.1 dL_law_642 (by decide) ?_
    refine W.widen (k := ca + 40) (n := sa + 3200) (by omega) (by omega) ?_
    exact kk r T M Mm1 (ou ciI o q0) d J H locs ls hRl1 (lv_sub hl [2, 3, 4, 5, 6, 7] rfl) hI

def SC_padOf (n : Nat) (Rl : Nat → Mem → Mem → Mem → Prop) : Prop := ∀ (j : Nat) (T M Mm : Mem) (x1 : Int32), j < 512 → Rl j T M Mm → ∃ (q0 : RX Int32) (v : Int32) (Mm' : Mem), F_X9_padOf n x1 M = some q0 ∧ F_X10_padOf n x1 Mm = some (v, Mm') ∧ (∀ k, q0 = .inl k → k = 2 ∨ k = 5) ∧ Mm' 0 0 = cx [2, 5] q0 ∧ (∀ w, q0 = .inr w → w = v) ∧ Rl (j + 1) T M Mm'
set_option maxHeartbeats 4000000 in
theorem law_padOf {p : Program} {l : Launch} (hl0 : l.stackTraces = false) {e : Env} {s : State} {m : MethodId} {args : Array Value} {below : List Frame} {meth : Method} {c : Code} {Q : State → Prop} (C0 : CallFix p m c code 9 s args LWg RL) {g : GG} (hC : CC g (AL s) s) {bs L : Nat} {xs : Nat → Int32} (hX : LX bs L xs s) {b bm : Nat → Nat} {q1 q2 n j ca sa : Nat} (hca : ca + 40 ≤ 603072) (hsa : sa + 3200 ≤ 7174250) {x5 : Int32} (hi : ∀ k : Int32, 0 ≤ k → k ≤ 4 → vp_in (x5 + k) L) (hj : j < 512) {Rl : Nat → Mem → Mem → Mem → Prop} (hS : SC_padOf n Rl)
    {r : Nat → Nat} {T M Mm : Mem} {o : Nat → Int64} {d : Nat → UInt64} {J : va_W} (hRl : Rl j T M Mm) {H : Heap} {locs : List Loc} {ls : Array Slot} (hl : lv_has ls 9 [(5, .int x5), (0, .ref bs), (1, .ref (b 0)), (2, .ref (bm 0)), (3, .ref q1), (4, .ref q2)]) (hI : KI g (AL s) s (LWc g r b bm q1 q2 T M Mm o d J) H locs)
    (kk : ∀ (r : Nat → Nat) (T M Mm : Mem) (o : Nat → Int64) (d : Nat → UInt64) (J : va_W) (H : Heap) (locs : List Loc) (ls : Array Slot), Rl (j + 1) T M Mm → lv_has ls 9 [(5, .int x5), (0, .ref bs), (1, .ref (b 0)), (2, .ref (bm 0)), (3, .ref q1), (4, .ref q2)] → KI g (AL s) s (LWc g r b bm q1 q2 T M Mm o d J) H locs → W p l e room_1 s m args below meth c H locs (ca + 40) (sa + 3200) Q (F0 m 2968 ls [])) :
    W p l e room_1 s m args below meth c H locs ca sa Q (F0 m 645 ls []) := by
  refine lv_aload_n C0.1 C0.2.1 dL_law_645 rfl (lv_at hl 2 rfl) ?_
  refine lv_aload_n C0.1 C0.2.1 dL_law_646 rfl (lv_at hl 1 rfl) ?_
  refine lv_iload C0.1 C0.2.1 dL_law_647 (lv_at hl 0 rfl) ?_
  refine lv_iconst (v := 1) C0.1 C0.2.1 dL_law_649 (by decide) ?_
  refine lv_iadd C0.1 C0.2.1 dL_law_650 ?_
  refine l_xs C0 hX hI (hi 1 (by decide) (by decide)) dL_law_651 ?_
  refine lv_aload_n C0.1 C0.2.1 dL_law_652 rfl (lv_at hl 4 rfl) ?_
  obtain ⟨q0, v, Mm1, h1, h2, h3, h5, h6, hRl1⟩ := hS j T M Mm (xs (ix (x5 + 1))) hj hRl
  refine lc_h (As := [.ref (b 0), .int (xs (ix (x5 + 1))), .ref q1]) C0 hC hI (h_padOf l hl0 g (J ++ pw 10 (shM g bm) bm Mm) r b H.size n T M q1 q2 o d (xs (ix (x5 + 1))) h1 h3) w_885 w_886 w_118 w_887 ⟨rfl, rfl⟩ hd_L_padOf ⟨Nat.le_of_ble_eq_true rfl, Nat.le_of_ble_eq_true rfl⟩ rfl hl.1 rfl (Nat.le_of_ble_eq_true rfl) dL_law_653 ⟨by show _ ≤ 603072; omega, by show _ ≤ 7174250; omega⟩ (fun H locs hI => ?_)
  refine lv_istore (lv' := [(6, .int (cx [2, 5] q0)), (5, .int x5), (0, .ref bs), (1, .ref (b 0)), (2, .ref (bm 0)), (3, .ref q1), (4, .ref q2)]) C0.1 C0.2.1 dL_law_656 hl (by decide) rfl (fun ls hl => ?_)
  refine lv_aload_n C0.1 C0.2.1 dL_law_658 rfl (lv_at hl 4 rfl) ?_
  refine lv_aload_n C0.1 C0.2.1 dL_law_659 rfl (lv_at hl 2 rfl) ?_
  refine lv_iload C0.1 C0.2.1 dL_law_660 (lv_at hl 1 rfl) ?_
  refine lv_iconst (v := 1) C0.1 C0.2.1 dL_law_662 (by decide) ?_
  refine lv_iadd C0.1 C0.2.1 dL_law_663 ?_
  refine l_xs C0 hX hI (hi 1 (by decide) (by decide)) dL_law_664 ?_
  refine lm_i (As := [.int (xs (ix (x5 + 1)))]) C0 hC hI (c_X10_padOf l g (xb g r T ++ (outs g q1 q2 (ou ciI o q0) d ++ J) ++ pw 372 (shI g r b) b M) bm H.size n Mm (xs (ix (x5 + 1))) h2) w_1842 w_1843 w_1844 w_132 w_1845 ⟨rfl, rfl⟩ hd_X10_padOf ⟨Nat.le_of_ble_eq_true rfl, Nat.le_of_ble_eq_true rfl⟩ rfl rfl hl.1 rfl (Nat.le_of_ble_eq_true rfl) dL_law_665 ⟨by show _ ≤ 603072; omega, by show _ ≤ 7174250; omega⟩ (fun H locs hI => ?_)
  refine lv_istore (lv' := [(7, .int v), (6, .int (cx [2, 5] q0)), (5, .int x5), (0, .ref bs), (1, .ref (b 0)), (2, .ref (bm 0)), (3, .ref q1), (4, .ref q2)]) C0.1 C0.2.1 dL_law_668 hl (by decide) rfl (fun ls hl => ?_)
  refine lv_aload_n C0.1 C0.2.1 dL_law_670 rfl (lv_at hl 5 rfl) ?_
  refine lm_i (As := []) C0 hC hI (c_X10_thrown l g (xb g r T ++ (outs g q1 q2 (ou ciI o q0) d ++ J) ++ pw 372 (shI g r b) b M) bm H.size n Mm1 rfl) w_1752 w_1753 w_1754 w_132 w_1755 ⟨rfl, rfl⟩ hd_X10_thrown ⟨Nat.le_of_ble_eq_true rfl, Nat.le_of_ble_eq_true rfl⟩ rfl rfl hl.1 rfl (Nat.le_of_ble_eq_true rfl) dL_law_671 ⟨by show _ ≤ 603072; omega, by show _ ≤ 7174250; omega⟩ (fun H locs hI => ?_)
  refine lv_iload C0.1 C0.2.1 dL_law_674 (lv_at hl 1 rfl) ?_
  refine lv_icmp_eq (tgt := 681) C0.1 C0.2.1 dL_law_676 (by decide) (fun _ => ?_) (fun z => absurd h5 z)
  refine lv_iload C0.1 C0.2.1 dL_law_681 (lv_at hl 1 rfl) ?_
  refine lv_if_ne (tgt := 698) C0.1 C0.2.1 dL_law_683 (by decide) (fun cz => ?_) (fun cz => ?_)
  · skip
    refine lv_goto (tgt := 2968) C0.1 C0.2.1 dL_law_698 (by decide) ?_
    refine W.widen (k := ca + 40) (n := sa + 3200) (by omega) (by omega) ?_
    exact kk r T M Mm1 (ou ciI o q0) d J H locs ls hRl1 (lv_sub hl [2, 3, 4, 5, 6, 7] rfl) hI
  · obtain ⟨w, hw⟩ := cx_0 (by decide) cz
    refine lv_aload_n C0.1 C0.2.1 dL_law_686 rfl (lv_at hl 6 rfl) ?_
    refine lv_iconst (v := 0) C0.1 C0.2.1 dL_law_687 (by decide) ?_
    refine lc_lald C0 hC hI dL_law_688 ?_
    rw [our (f := ciI) hw, updL0]
    refine lv_iload C0.1 C0.2.1 dL_law_689 (lv_at hl 0 rfl) ?_
    refine lv_i2l C0.1 C0.2.1 dL_law_691 rfl ?_
    refine W.lcmp C0.1 C0.2.1 dL_law_692 ?_
    rw [show ciI w = v.toInt64 from by rw [h6 w hw], lg_eq]
    refine lv_if_eq (tgt := 698) C0.1 C0.2.1 dL_law_693 (by decide) (fun _ => ?_) (fun z => absurd rfl z)
    refine lv_goto (tgt := 2968) C0.1 C0.2.1 dL_law_698 (by decide) ?_
    refine W.widen (k := ca + 40) (n := sa + 3200) (by omega) (by omega) ?_
    exact kk r T M Mm1 (ou ciI o q0) d J H locs ls hRl1 (lv_sub hl [2, 3, 4, 5, 6, 7] rfl) hI

def SC_padCount (n : Nat) (Rl : Nat → Mem → Mem → Mem → Prop) : Prop := ∀ (j : Nat) (T M Mm : Mem), j < 512 → Rl j T M Mm → ∃ (v : Int32) (Mm' : Mem), F_X9_padCount n M = some v ∧ F_X10_padCount n Mm = some (v, Mm') ∧ Rl (j + 1) T M Mm'
set_option maxHeartbeats 4000000 in
theorem law_padCount {p : Program} {l : Launch} (hl0 : l.stackTraces = false) {e : Env} {s : State} {m : MethodId} {args : Array Value} {below : List Frame} {meth : Method} {c : Code} {Q : State → Prop} (C0 : CallFix p m c code 9 s args LWg RL) {g : GG} (hC : CC g (AL s) s) {bs L : Nat} {xs : Nat → Int32} (hX : LX bs L xs s) {b bm : Nat → Nat} {q1 q2 n j ca sa : Nat} (hca : ca + 40 ≤ 603072) (hsa : sa + 3200 ≤ 7174250) {x5 : Int32} (hi : ∀ k : Int32, 0 ≤ k → k ≤ 4 → vp_in (x5 + k) L) (hj : j < 512) {Rl : Nat → Mem → Mem → Mem → Prop} (hS : SC_padCount n Rl)
    {r : Nat → Nat} {T M Mm : Mem} {o : Nat → Int64} {d : Nat → UInt64} {J : va_W} (hRl : Rl j T M Mm) {H : Heap} {locs : List Loc} {ls : Array Slot} (hl : lv_has ls 9 [(5, .int x5), (0, .ref bs), (1, .ref (b 0)), (2, .ref (bm 0)), (3, .ref q1), (4, .ref q2)]) (hI : KI g (AL s) s (LWc g r b bm q1 q2 T M Mm o d J) H locs)
    (kk : ∀ (r : Nat → Nat) (T M Mm : Mem) (o : Nat → Int64) (d : Nat → UInt64) (J : va_W) (H : Heap) (locs : List Loc) (ls : Array Slot), Rl (j + 1) T M Mm → lv_has ls 9 [(5, .int x5), (0, .ref bs), (1, .ref (b 0)), (2, .ref (bm 0)), (3, .ref q1), (4, .ref q2)] → KI g (AL s) s (LWc g r b bm q1 q2 T M Mm o d J) H locs → W p l e room_1 s m args below meth c H locs (ca + 40) (sa + 3200) Q (F0 m 2968 ls [])) :
    W p l e room_1 s m args below meth c H locs ca sa Q (F0 m 701 ls []) := by
  refine lv_aload_n C0.1 C0.2.1 dL_law_701 rfl (lv_at hl 2 rfl) ?_
  obtain ⟨v, Mm1, h1, h2, hRl1⟩ := hS j T M Mm hj hRl
  refine lc_i (As := []) C0 hC hI (c_X9_padCount l g (xb g r T ++ (outs g q1 q2 o d ++ (J ++ pw 10 (shM g bm) bm Mm))) r b H.size n M h1) w_428 w_429 w_430 w_119 w_431 ⟨rfl, rfl⟩ hd_X9_padCount ⟨Nat.le_of_ble_eq_true rfl, Nat.le_of_ble_eq_true rfl⟩ rfl rfl hl.1 rfl (Nat.le_of_ble_eq_true rfl) dL_law_702 ⟨by show _ ≤ 603072; omega, by show _ ≤ 7174250; omega⟩ (fun H locs hI => ?_)
  refine lv_aload_n C0.1 C0.2.1 dL_law_705 rfl (lv_at hl 3 rfl) ?_
  refine lm_i (As := []) C0 hC hI (c_X10_padCount l g (xb g r T ++ (outs g q1 q2 o d ++ J) ++ pw 372 (shI g r b) b M) bm H.size n Mm h2) w_1846 w_1847 w_1848 w_132 w_1849 ⟨rfl, rfl⟩ hd_X10_padCount ⟨Nat.le_of_ble_eq_true rfl, Nat.le_of_ble_eq_true rfl⟩ rfl rfl hl.1 rfl (Nat.le_of_ble_eq_true rfl) dL_law_706 ⟨by show _ ≤ 603072; omega, by show _ ≤ 7174250; omega⟩ (fun H locs hI => ?_)
  refine lv_icmp_eq (tgt := 2968) C0.1 C0.2.1 dL_law_709 (by decide) (fun _ => ?_) (fun z => absurd rfl z)
  refine W.widen (k := ca + 40) (n := sa + 3200) (by omega) (by omega) ?_
  exact kk r T M Mm1 o d J H locs ls hRl1 (lv_sub hl [0, 1, 2, 3, 4, 5] rfl) hI

def SC_frogsOn (n : Nat) (Rl : Nat → Mem → Mem → Mem → Prop) : Prop := ∀ (j : Nat) (T M Mm : Mem) (x1 : Int32), j < 512 → Rl j T M Mm → ∃ (q0 : RX Int32) (v : Int32) (Mm' : Mem), F_X9_frogsOn n x1 M = some q0 ∧ F_X10_frogsOn n x1 Mm = some (v, Mm') ∧ (∀ k, q0 = .inl k → k = 2) ∧ Mm' 0 0 = cx [2] q0 ∧ (∀ w, q0 = .inr w → w = v) ∧ Rl (j + 1) T M Mm'
set_option maxHeartbeats 4000000 in
theorem law_frogsOn {p : Program} {l : Launch} (hl0 : l.stackTraces = false) {e : Env} {s : State} {m : MethodId} {args : Array Value} {below : List Frame} {meth : Method} {c : Code} {Q : State → Prop} (C0 : CallFix p m c code 9 s args LWg RL) {g : GG} (hC : CC g (AL s) s) {bs L : Nat} {xs : Nat → Int32} (hX : LX bs L xs s) {b bm : Nat → Nat} {q1 q2 n j ca sa : Nat} (hca : ca + 40 ≤ 603072) (hsa : sa + 3200 ≤ 7174250) {x5 : Int32} (hi : ∀ k : Int32, 0 ≤ k → k ≤ 4 → vp_in (x5 + k) L) (hj : j < 512) {Rl : Nat → Mem → Mem → Mem → Prop} (hS : SC_frogsOn n Rl)
    {r : Nat → Nat} {T M Mm : Mem} {o : Nat → Int64} {d : Nat → UInt64} {J : va_W} (hRl : Rl j T M Mm) {H : Heap} {locs : List Loc} {ls : Array Slot} (hl : lv_has ls 9 [(5, .int x5), (0, .ref bs), (1, .ref (b 0)), (2, .ref (bm 0)), (3, .ref q1), (4, .ref q2)]) (hI : KI g (AL s) s (LWc g r b bm q1 q2 T M Mm o d J) H locs)
    (kk : ∀ (r : Nat → Nat) (T M Mm : Mem) (o : Nat → Int64) (d : Nat → UInt64) (J : va_W) (H : Heap) (locs : List Loc) (ls : Array Slot), Rl (j + 1) T M Mm → lv_has ls 9 [(5, .int x5), (0, .ref bs), (1, .ref (b 0)), (2, .ref (bm 0)), (3, .ref q1), (4, .ref q2)] → KI g (AL s) s (LWc g r b bm q1 q2 T M Mm o d J) H locs → W p l e room_1 s m args below meth c H locs (ca + 40) (sa + 3200) Q (F0 m 2968 ls [])) :
    W p l e room_1 s m args below meth c H locs ca sa Q (F0 m 714 ls []) := by
  refine lv_aload_n C0.1 C0.2.1 dL_law_714 rfl (lv_at hl 2 rfl) ?_
  refine lv_aload_n C0.1 C0.2.1 dL_law_715 rfl (lv_at hl 1 rfl) ?_
  refine lv_iload C0.1 C0.2.1 dL_law_716 (lv_at hl 0 rfl) ?_
  refine lv_iconst (v := 1) C0.1 C0.2.1 dL_law_718 (by decide) ?_
  refine lv_iadd C0.1 C0.2.1 dL_law_719 ?_
  refine l_xs C0 hX hI (hi 1 (by decide) (by decide)) dL_law_720 ?_
  refine lv_aload_n C0.1 C0.2.1 dL_law_721 rfl (lv_at hl 4 rfl) ?_
  obtain ⟨q0, v, Mm1, h1, h2, h3, h5, h6, hRl1⟩ := hS j T M Mm (xs (ix (x5 + 1))) hj hRl
  refine lc_h (As := [.ref (b 0), .int (xs (ix (x5 + 1))), .ref q1]) C0 hC hI (h_frogsOn l hl0 g (J ++ pw 10 (shM g bm) bm Mm) r b H.size n T M q1 q2 o d (xs (ix (x5 + 1))) h1 h3) w_894 w_895 w_118 w_896 ⟨rfl, rfl⟩ hd_L_frogsOn ⟨Nat.le_of_ble_eq_true rfl, Nat.le_of_ble_eq_true rfl⟩ rfl hl.1 rfl (Nat.le_of_ble_eq_true rfl) dL_law_722 ⟨by show _ ≤ 603072; omega, by show _ ≤ 7174250; omega⟩ (fun H locs hI => ?_)
  refine lv_istore (lv' := [(6, .int (cx [2] q0)), (5, .int x5), (0, .ref bs), (1, .ref (b 0)), (2, .ref (bm 0)), (3, .ref q1), (4, .ref q2)]) C0.1 C0.2.1 dL_law_725 hl (by decide) rfl (fun ls hl => ?_)
  refine lv_aload_n C0.1 C0.2.1 dL_law_727 rfl (lv_at hl 4 rfl) ?_
  refine lv_aload_n C0.1 C0.2.1 dL_law_728 rfl (lv_at hl 2 rfl) ?_
  refine lv_iload C0.1 C0.2.1 dL_law_729 (lv_at hl 1 rfl) ?_
  refine lv_iconst (v := 1) C0.1 C0.2.1 dL_law_731 (by decide) ?_
  refine lv_iadd C0.1 C0.2.1 dL_law_732 ?_
  refine l_xs C0 hX hI (hi 1 (by decide) (by decide)) dL_law_733 ?_
  refine lm_i (As := [.int (xs (ix (x5 + 1)))]) C0 hC hI (c_X10_frogsOn l g (xb g r T ++ (outs g q1 q2 (ou ciI o q0) d ++ J) ++ pw 372 (shI g r b) b M) bm H.size n Mm (xs (ix (x5 + 1))) h2) w_1850 w_1851 w_1852 w_132 w_1853 ⟨rfl, rfl⟩ hd_X10_frogsOn ⟨Nat.le_of_ble_eq_true rfl, Nat.le_of_ble_eq_true rfl⟩ rfl rfl hl.1 rfl (Nat.le_of_ble_eq_true rfl) dL_law_734 ⟨by show _ ≤ 603072; omega, by show _ ≤ 7174250; omega⟩ (fun H locs hI => ?_)
  refine lv_istore (lv' := [(7, .int v), (6, .int (cx [2] q0)), (5, .int x5), (0, .ref bs), (1, .ref (b 0)), (2, .ref (bm 0)), (3, .ref q1), (4, .ref q2)]) C0.1 C0.2.1 dL_law_737 hl (by decide) rfl (fun ls hl => ?_)
  refine lv_aload_n C0.1 C0.2.1 dL_law_739 rfl (lv_at hl 5 rfl) ?_
  refine lm_i (As := []) C0 hC hI (c_X10_thrown l g (xb g r T ++ (outs g q1 q2 (ou ciI o q0) d ++ J) ++ pw 372 (shI g r b) b M) bm H.size n Mm1 rfl) w_1752 w_1753 w_1754 w_132 w_1755 ⟨rfl, rfl⟩ hd_X10_thrown ⟨Nat.le_of_ble_eq_true rfl, Nat.le_of_ble_eq_true rfl⟩ rfl rfl hl.1 rfl (Nat.le_of_ble_eq_true rfl) dL_law_740 ⟨by show _ ≤ 603072; omega, by show _ ≤ 7174250; omega⟩ (fun H locs hI => ?_)
  refine lv_iload C0.1 C0.2.1 dL_law_743 (lv_at hl 1 rfl) ?_
  refine lv_icmp_eq (tgt := 750) C0.1 C0.2.1 dL_law_745 (by decide) (fun _ => ?_) (fun z => absurd h5 z)
  refine lv_iload C0.1 C0.2.1 dL_law_750 (lv_at hl 1 rfl) ?_
  refine lv_if_ne (tgt := 767) C0.1 C0.2.1 dL_law_752 (by decide) (fun cz => ?_) (fun cz => ?_)
  · skip
    refine lv_goto (tgt := 2968) C0.1 C0.2.1 dL_law_767 (by decide) ?_
    refine W.widen (k := ca + 40) (n := sa + 3200) (by omega) (by omega) ?_
    exact kk r T M Mm1 (ou ciI o q0) d J H locs ls hRl1 (lv_sub hl [2, 3, 4, 5, 6, 7] rfl) hI
  · obtain ⟨w, hw⟩ := cx_0 (by decide) cz
    refine lv_aload_n C0.1 C0.2.1 dL_law_755 rfl (lv_at hl 6 rfl) ?_
    refine lv_iconst (v := 0) C0.1 C0.2.1 dL_law_756 (by decide) ?_
    refine lc_lald C0 hC hI dL_law_757 ?_
    rw [our (f := ciI) hw, updL0]
    refine lv_iload C0.1 C0.2.1 dL_law_758 (lv_at hl 0 rfl) ?_
    refine lv_i2l C0.1 C0.2.1 dL_law_760 rfl ?_
    refine W.lcmp C0.1 C0.2.1 dL_law_761 ?_
    rw [show ciI w = v.toInt64 from by rw [h6 w hw], lg_eq]
    refine lv_if_eq (tgt := 767) C0.1 C0.2.1 dL_law_762 (by decide) (fun _ => ?_) (fun z => absurd rfl z)
    refine lv_goto (tgt := 2968) C0.1 C0.2.1 dL_law_767 (by decide) ?_
    refine W.widen (k := ca + 40) (n := sa + 3200) (by omega) (by omega) ?_
    exact kk r T M Mm1 (ou ciI o q0) d J H locs ls hRl1 (lv_sub hl [2, 3, 4, 5, 6, 7] rfl) hI

def SC_padWeight (n : Nat) (Rl : Nat → Mem → Mem → Mem → Prop) : Prop := ∀ (j : Nat) (T M Mm : Mem) (x1 : Int32), j < 512 → Rl j T M Mm → ∃ (q0 : RX Int32) (v : Int32) (Mm' : Mem), F_X9_padWeight n x1 M = some q0 ∧ F_X10_padWeight n x1 Mm = some (v, Mm') ∧ (∀ k, q0 = .inl k → k = 2) ∧ Mm' 0 0 = cx [2] q0 ∧ (∀ w, q0 = .inr w → w = v) ∧ Rl (j + 1) T M Mm'
set_option maxHeartbeats 4000000 in
theorem law_padWeight {p : Program} {l : Launch} (hl0 : l.stackTraces = false) {e : Env} {s : State} {m : MethodId} {args : Array Value} {below : List Frame} {meth : Method} {c : Code} {Q : State → Prop} (C0 : CallFix p m c code 9 s args LWg RL) {g : GG} (hC : CC g (AL s) s) {bs L : Nat} {xs : Nat → Int32} (hX : LX bs L xs s) {b bm : Nat → Nat} {q1 q2 n j ca sa : Nat} (hca : ca + 40 ≤ 603072) (hsa : sa + 3200 ≤ 7174250) {x5 : Int32} (hi : ∀ k : Int32, 0 ≤ k → k ≤ 4 → vp_in (x5 + k) L) (hj : j < 512) {Rl : Nat → Mem → Mem → Mem → Prop} (hS : SC_padWeight n Rl)
    {r : Nat → Nat} {T M Mm : Mem} {o : Nat → Int64} {d : Nat → UInt64} {J : va_W} (hRl : Rl j T M Mm) {H : Heap} {locs : List Loc} {ls : Array Slot} (hl : lv_has ls 9 [(5, .int x5), (0, .ref bs), (1, .ref (b 0)), (2, .ref (bm 0)), (3, .ref q1), (4, .ref q2)]) (hI : KI g (AL s) s (LWc g r b bm q1 q2 T M Mm o d J) H locs)
    (kk : ∀ (r : Nat → Nat) (T M Mm : Mem) (o : Nat → Int64) (d : Nat → UInt64) (J : va_W) (H : Heap) (locs : List Loc) (ls : Array Slot), Rl (j + 1) T M Mm → lv_has ls 9 [(5, .int x5), (0, .ref bs), (1, .ref (b 0)), (2, .ref (bm 0)), (3, .ref q1), (4, .ref q2)] → KI g (AL s) s (LWc g r b bm q1 q2 T M Mm o d J) H locs → W p l e room_1 s m args below meth c H locs (ca + 40) (sa + 3200) Q (F0 m 2968 ls [])) :
    W p l e room_1 s m args below meth c H locs ca sa Q (F0 m 770 ls []) := by
  refine lv_aload_n C0.1 C0.2.1 dL_law_770 rfl (lv_at hl 2 rfl) ?_
  refine lv_aload_n C0.1 C0.2.1 dL_law_771 rfl (lv_at hl 1 rfl) ?_
  refine lv_iload C0.1 C0.2.1 dL_law_772 (lv_at hl 0 rfl) ?_
  refine lv_iconst (v := 1) C0.1 C0.2.1 dL_law_774 (by decide) ?_
  refine lv_iadd C0.1 C0.2.1 dL_law_775 ?_
  refine l_xs C0 hX hI (hi 1 (by decide) (by decide)) dL_law_776 ?_
  refine lv_aload_n C0.1 C0.2.1 dL_law_777 rfl (lv_at hl 4 rfl) ?_
  obtain ⟨q0, v, Mm1, h1, h2, h3, h5, h6, hRl1⟩ := hS j T M Mm (xs (ix (x5 + 1))) hj hRl
  refine lc_h (As := [.ref (b 0), .int (xs (ix (x5 + 1))), .ref q1]) C0 hC hI (h_padWeight l hl0 g (J ++ pw 10 (shM g bm) bm Mm) r b H.size n T M q1 q2 o d (xs (ix (x5 + 1))) h1 h3) w_907 w_908 w_118 w_909 ⟨rfl, rfl⟩ hd_L_padWeight ⟨Nat.le_of_ble_eq_true rfl, Nat.le_of_ble_eq_true rfl⟩ rfl hl.1 rfl (Nat.le_of_ble_eq_true rfl) dL_law_778 ⟨by show _ ≤ 603072; omega, by show _ ≤ 7174250; omega⟩ (fun H locs hI => ?_)
  refine lv_istore (lv' := [(6, .int (cx [2] q0)), (5, .int x5), (0, .ref bs), (1, .ref (b 0)), (2, .ref (bm 0)), (3, .ref q1), (4, .ref q2)]) C0.1 C0.2.1 dL_law_781 hl (by decide) rfl (fun ls hl => ?_)
  refine lv_aload_n C0.1 C0.2.1 dL_law_783 rfl (lv_at hl 4 rfl) ?_
  refine lv_aload_n C0.1 C0.2.1 dL_law_784 rfl (lv_at hl 2 rfl) ?_
  refine lv_iload C0.1 C0.2.1 dL_law_785 (lv_at hl 1 rfl) ?_
  refine lv_iconst (v := 1) C0.1 C0.2.1 dL_law_787 (by decide) ?_
  refine lv_iadd C0.1 C0.2.1 dL_law_788 ?_
  refine l_xs C0 hX hI (hi 1 (by decide) (by decide)) dL_law_789 ?_
  refine lm_i (As := [.int (xs (ix (x5 + 1)))]) C0 hC hI (c_X10_padWeight l g (xb g r T ++ (outs g q1 q2 (ou ciI o q0) d ++ J) ++ pw 372 (shI g r b) b M) bm H.size n Mm (xs (ix (x5 + 1))) h2) w_1854 w_1855 w_1856 w_132 w_1857 ⟨rfl, rfl⟩ hd_X10_padWeight ⟨Nat.le_of_ble_eq_true rfl, Nat.le_of_ble_eq_true rfl⟩ rfl rfl hl.1 rfl (Nat.le_of_ble_eq_true rfl) dL_law_790 ⟨by show _ ≤ 603072; omega, by show _ ≤ 7174250; omega⟩ (fun H locs hI => ?_)
  refine lv_istore (lv' := [(7, .int v), (6, .int (cx [2] q0)), (5, .int x5), (0, .ref bs), (1, .ref (b 0)), (2, .ref (bm 0)), (3, .ref q1), (4, .ref q2)]) C0.1 C0.2.1 dL_law_793 hl (by decide) rfl (fun ls hl => ?_)
  refine lv_aload_n C0.1 C0.2.1 dL_law_795 rfl (lv_at hl 5 rfl) ?_
  refine lm_i (As := []) C0 hC hI (c_X10_thrown l g (xb g r T ++ (outs g q1 q2 (ou ciI o q0) d ++ J) ++ pw 372 (shI g r b) b M) bm H.size n Mm1 rfl) w_1752 w_1753 w_1754 w_132 w_1755 ⟨rfl, rfl⟩ hd_X10_thrown ⟨Nat.le_of_ble_eq_true rfl, Nat.le_of_ble_eq_true rfl⟩ rfl rfl hl.1 rfl (Nat.le_of_ble_eq_true rfl) dL_law_796 ⟨by show _ ≤ 603072; omega, by show _ ≤ 7174250; omega⟩ (fun H locs hI => ?_)
  refine lv_iload C0.1 C0.2.1 dL_law_799 (lv_at hl 1 rfl) ?_
  refine lv_icmp_eq (tgt := 806) C0.1 C0.2.1 dL_law_801 (by decide) (fun _ => ?_) (fun z => absurd h5 z)
  refine lv_iload C0.1 C0.2.1 dL_law_806 (lv_at hl 1 rfl) ?_
  refine lv_if_ne (tgt := 823) C0.1 C0.2.1 dL_law_808 (by decide) (fun cz => ?_) (fun cz => ?_)
  · skip
    refine lv_goto (tgt := 2968) C0.1 C0.2.1 dL_law_823 (by decide) ?_
    refine W.widen (k := ca + 40) (n := sa + 3200) (by omega) (by omega) ?_
    exact kk r T M Mm1 (ou ciI o q0) d J H locs ls hRl1 (lv_sub hl [2, 3, 4, 5, 6, 7] rfl) hI
  · obtain ⟨w, hw⟩ := cx_0 (by decide) cz
    refine lv_aload_n C0.1 C0.2.1 dL_law_811 rfl (lv_at hl 6 rfl) ?_
    refine lv_iconst (v := 0) C0.1 C0.2.1 dL_law_812 (by decide) ?_
    refine lc_lald C0 hC hI dL_law_813 ?_
    rw [our (f := ciI) hw, updL0]
    refine lv_iload C0.1 C0.2.1 dL_law_814 (lv_at hl 0 rfl) ?_
    refine lv_i2l C0.1 C0.2.1 dL_law_816 rfl ?_
    refine W.lcmp C0.1 C0.2.1 dL_law_817 ?_
    rw [show ciI w = v.toInt64 from by rw [h6 w hw], lg_eq]
    refine lv_if_eq (tgt := 823) C0.1 C0.2.1 dL_law_818 (by decide) (fun _ => ?_) (fun z => absurd rfl z)
    refine lv_goto (tgt := 2968) C0.1 C0.2.1 dL_law_823 (by decide) ?_
    refine W.widen (k := ca + 40) (n := sa + 3200) (by omega) (by omega) ?_
    exact kk r T M Mm1 (ou ciI o q0) d J H locs ls hRl1 (lv_sub hl [2, 3, 4, 5, 6, 7] rfl) hI

def SC_sittingCount (n : Nat) (Rl : Nat → Mem → Mem → Mem → Prop) : Prop := ∀ (j : Nat) (T M Mm : Mem), j < 512 → Rl j T M Mm → ∃ (v : Int32) (Mm' : Mem), F_X9_sittingCount n M = some v ∧ F_X10_sittingCount n Mm = some (v, Mm') ∧ Rl (j + 1) T M Mm'
set_option maxHeartbeats 4000000 in
theorem law_sittingCount {p : Program} {l : Launch} (hl0 : l.stackTraces = false) {e : Env} {s : State} {m : MethodId} {args : Array Value} {below : List Frame} {meth : Method} {c : Code} {Q : State → Prop} (C0 : CallFix p m c code 9 s args LWg RL) {g : GG} (hC : CC g (AL s) s) {bs L : Nat} {xs : Nat → Int32} (hX : LX bs L xs s) {b bm : Nat → Nat} {q1 q2 n j ca sa : Nat} (hca : ca + 40 ≤ 603072) (hsa : sa + 3200 ≤ 7174250) {x5 : Int32} (hi : ∀ k : Int32, 0 ≤ k → k ≤ 4 → vp_in (x5 + k) L) (hj : j < 512) {Rl : Nat → Mem → Mem → Mem → Prop} (hS : SC_sittingCount n Rl)
    {r : Nat → Nat} {T M Mm : Mem} {o : Nat → Int64} {d : Nat → UInt64} {J : va_W} (hRl : Rl j T M Mm) {H : Heap} {locs : List Loc} {ls : Array Slot} (hl : lv_has ls 9 [(5, .int x5), (0, .ref bs), (1, .ref (b 0)), (2, .ref (bm 0)), (3, .ref q1), (4, .ref q2)]) (hI : KI g (AL s) s (LWc g r b bm q1 q2 T M Mm o d J) H locs)
    (kk : ∀ (r : Nat → Nat) (T M Mm : Mem) (o : Nat → Int64) (d : Nat → UInt64) (J : va_W) (H : Heap) (locs : List Loc) (ls : Array Slot), Rl (j + 1) T M Mm → lv_has ls 9 [(5, .int x5), (0, .ref bs), (1, .ref (b 0)), (2, .ref (bm 0)), (3, .ref q1), (4, .ref q2)] → KI g (AL s) s (LWc g r b bm q1 q2 T M Mm o d J) H locs → W p l e room_1 s m args below meth c H locs (ca + 40) (sa + 3200) Q (F0 m 2968 ls [])) :
    W p l e room_1 s m args below meth c H locs ca sa Q (F0 m 826 ls []) := by
  refine lv_aload_n C0.1 C0.2.1 dL_law_826 rfl (lv_at hl 2 rfl) ?_
  obtain ⟨v, Mm1, h1, h2, hRl1⟩ := hS j T M Mm hj hRl
  refine lc_i (As := []) C0 hC hI (c_X9_sittingCount l g (xb g r T ++ (outs g q1 q2 o d ++ (J ++ pw 10 (shM g bm) bm Mm))) r b H.size n M h1) w_432 w_433 w_434 w_119 w_435 ⟨rfl, rfl⟩ hd_X9_sittingCount ⟨Nat.le_of_ble_eq_true rfl, Nat.le_of_ble_eq_true rfl⟩ rfl rfl hl.1 rfl (Nat.le_of_ble_eq_true rfl) dL_law_827 ⟨by show _ ≤ 603072; omega, by show _ ≤ 7174250; omega⟩ (fun H locs hI => ?_)
  refine lv_aload_n C0.1 C0.2.1 dL_law_830 rfl (lv_at hl 3 rfl) ?_
  refine lm_i (As := []) C0 hC hI (c_X10_sittingCount l g (xb g r T ++ (outs g q1 q2 o d ++ J) ++ pw 372 (shI g r b) b M) bm H.size n Mm h2) w_1858 w_1859 w_1860 w_132 w_1861 ⟨rfl, rfl⟩ hd_X10_sittingCount ⟨Nat.le_of_ble_eq_true rfl, Nat.le_of_ble_eq_true rfl⟩ rfl rfl hl.1 rfl (Nat.le_of_ble_eq_true rfl) dL_law_831 ⟨by show _ ≤ 603072; omega, by show _ ≤ 7174250; omega⟩ (fun H locs hI => ?_)
  refine lv_icmp_eq (tgt := 2968) C0.1 C0.2.1 dL_law_834 (by decide) (fun _ => ?_) (fun z => absurd rfl z)
  refine W.widen (k := ca + 40) (n := sa + 3200) (by omega) (by omega) ?_
  exact kk r T M Mm1 o d J H locs ls hRl1 (lv_sub hl [0, 1, 2, 3, 4, 5] rfl) hI

def SC_sittingCountBySet (n : Nat) (Rl : Nat → Mem → Mem → Mem → Prop) : Prop := ∀ (j : Nat) (T M Mm : Mem), j < 512 → Rl j T M Mm → ∃ (v : Int32) (Mm' : Mem), F_X9_sittingCountBySet n M = some v ∧ F_X10_sittingCountBySet n Mm = some (v, Mm') ∧ Rl (j + 1) T M Mm'
set_option maxHeartbeats 4000000 in
theorem law_sittingCountBySet {p : Program} {l : Launch} (hl0 : l.stackTraces = false) {e : Env} {s : State} {m : MethodId} {args : Array Value} {below : List Frame} {meth : Method} {c : Code} {Q : State → Prop} (C0 : CallFix p m c code 9 s args LWg RL) {g : GG} (hC : CC g (AL s) s) {bs L : Nat} {xs : Nat → Int32} (hX : LX bs L xs s) {b bm : Nat → Nat} {q1 q2 n j ca sa : Nat} (hca : ca + 40 ≤ 603072) (hsa : sa + 3200 ≤ 7174250) {x5 : Int32} (hi : ∀ k : Int32, 0 ≤ k → k ≤ 4 → vp_in (x5 + k) L) (hj : j < 512) {Rl : Nat → Mem → Mem → Mem → Prop} (hS : SC_sittingCountBySet n Rl)
    {r : Nat → Nat} {T M Mm : Mem} {o : Nat → Int64} {d : Nat → UInt64} {J : va_W} (hRl : Rl j T M Mm) {H : Heap} {locs : List Loc} {ls : Array Slot} (hl : lv_has ls 9 [(5, .int x5), (0, .ref bs), (1, .ref (b 0)), (2, .ref (bm 0)), (3, .ref q1), (4, .ref q2)]) (hI : KI g (AL s) s (LWc g r b bm q1 q2 T M Mm o d J) H locs)
    (kk : ∀ (r : Nat → Nat) (T M Mm : Mem) (o : Nat → Int64) (d : Nat → UInt64) (J : va_W) (H : Heap) (locs : List Loc) (ls : Array Slot), Rl (j + 1) T M Mm → lv_has ls 9 [(5, .int x5), (0, .ref bs), (1, .ref (b 0)), (2, .ref (bm 0)), (3, .ref q1), (4, .ref q2)] → KI g (AL s) s (LWc g r b bm q1 q2 T M Mm o d J) H locs → W p l e room_1 s m args below meth c H locs (ca + 40) (sa + 3200) Q (F0 m 2968 ls [])) :
    W p l e room_1 s m args below meth c H locs ca sa Q (F0 m 839 ls []) := by
  refine lv_aload_n C0.1 C0.2.1 dL_law_839 rfl (lv_at hl 2 rfl) ?_
  obtain ⟨v, Mm1, h1, h2, hRl1⟩ := hS j T M Mm hj hRl
  refine lc_i (As := []) C0 hC hI (c_X9_sittingCountBySet l g (xb g r T ++ (outs g q1 q2 o d ++ (J ++ pw 10 (shM g bm) bm Mm))) r b H.size n M h1) w_450 w_451 w_452 w_119 w_453 ⟨rfl, rfl⟩ hd_X9_sittingCountBySet ⟨Nat.le_of_ble_eq_true rfl, Nat.le_of_ble_eq_true rfl⟩ rfl rfl hl.1 rfl (Nat.le_of_ble_eq_true rfl) dL_law_840 ⟨by show _ ≤ 603072; omega, by show _ ≤ 7174250; omega⟩ (fun H locs hI => ?_)
  refine lv_aload_n C0.1 C0.2.1 dL_law_843 rfl (lv_at hl 3 rfl) ?_
  refine lm_i (As := []) C0 hC hI (c_X10_sittingCountBySet l g (xb g r T ++ (outs g q1 q2 o d ++ J) ++ pw 372 (shI g r b) b M) bm H.size n Mm h2) w_1866 w_1867 w_1868 w_132 w_1869 ⟨rfl, rfl⟩ hd_X10_sittingCountBySet ⟨Nat.le_of_ble_eq_true rfl, Nat.le_of_ble_eq_true rfl⟩ rfl rfl hl.1 rfl (Nat.le_of_ble_eq_true rfl) dL_law_844 ⟨by show _ ≤ 603072; omega, by show _ ≤ 7174250; omega⟩ (fun H locs hI => ?_)
  refine lv_icmp_eq (tgt := 2968) C0.1 C0.2.1 dL_law_847 (by decide) (fun _ => ?_) (fun z => absurd rfl z)
  refine W.widen (k := ca + 40) (n := sa + 3200) (by omega) (by omega) ?_
  exact kk r T M Mm1 o d J H locs ls hRl1 (lv_sub hl [0, 1, 2, 3, 4, 5] rfl) hI

def SC_addMotion (n : Nat) (Rl : Nat → Mem → Mem → Mem → Prop) : Prop := ∀ (j : Nat) (T M Mm : Mem) (x1 : Int32), j < 512 → Rl j T M Mm → ∃ (q0 : RX Int32) (M' : Mem) (v : Int32) (Mm' : Mem), F_X9_addMotion n x1 M = some (q0, M') ∧ F_X10_addMotion n x1 Mm = some (v, Mm') ∧ (∀ k, q0 = .inl k → k = 1 ∨ k = 0) ∧ Mm' 0 0 = cx [1, 0] q0 ∧ (∀ w, q0 = .inr w → w = v) ∧ Rl (j + 1) T M' Mm'
set_option maxHeartbeats 4000000 in
theorem law_addMotion {p : Program} {l : Launch} (hl0 : l.stackTraces = false) {e : Env} {s : State} {m : MethodId} {args : Array Value} {below : List Frame} {meth : Method} {c : Code} {Q : State → Prop} (C0 : CallFix p m c code 9 s args LWg RL) {g : GG} (hC : CC g (AL s) s) {bs L : Nat} {xs : Nat → Int32} (hX : LX bs L xs s) {b bm : Nat → Nat} {q1 q2 n j ca sa : Nat} (hca : ca + 40 ≤ 603072) (hsa : sa + 3200 ≤ 7174250) {x5 : Int32} (hi : ∀ k : Int32, 0 ≤ k → k ≤ 4 → vp_in (x5 + k) L) (hj : j < 512) {Rl : Nat → Mem → Mem → Mem → Prop} (hS : SC_addMotion n Rl)
    {r : Nat → Nat} {T M Mm : Mem} {o : Nat → Int64} {d : Nat → UInt64} {J : va_W} (hRl : Rl j T M Mm) {H : Heap} {locs : List Loc} {ls : Array Slot} (hl : lv_has ls 9 [(5, .int x5), (0, .ref bs), (1, .ref (b 0)), (2, .ref (bm 0)), (3, .ref q1), (4, .ref q2)]) (hI : KI g (AL s) s (LWc g r b bm q1 q2 T M Mm o d J) H locs)
    (kk : ∀ (r : Nat → Nat) (T M Mm : Mem) (o : Nat → Int64) (d : Nat → UInt64) (J : va_W) (H : Heap) (locs : List Loc) (ls : Array Slot), Rl (j + 1) T M Mm → lv_has ls 9 [(5, .int x5), (0, .ref bs), (1, .ref (b 0)), (2, .ref (bm 0)), (3, .ref q1), (4, .ref q2)] → KI g (AL s) s (LWc g r b bm q1 q2 T M Mm o d J) H locs → W p l e room_1 s m args below meth c H locs (ca + 40) (sa + 3200) Q (F0 m 2968 ls [])) :
    W p l e room_1 s m args below meth c H locs ca sa Q (F0 m 852 ls []) := by
  refine lv_aload_n C0.1 C0.2.1 dL_law_852 rfl (lv_at hl 2 rfl) ?_
  refine lv_aload_n C0.1 C0.2.1 dL_law_853 rfl (lv_at hl 1 rfl) ?_
  refine lv_iload C0.1 C0.2.1 dL_law_854 (lv_at hl 0 rfl) ?_
  refine lv_iconst (v := 1) C0.1 C0.2.1 dL_law_856 (by decide) ?_
  refine lv_iadd C0.1 C0.2.1 dL_law_857 ?_
  refine l_xs C0 hX hI (hi 1 (by decide) (by decide)) dL_law_858 ?_
  refine lv_aload_n C0.1 C0.2.1 dL_law_859 rfl (lv_at hl 4 rfl) ?_
  obtain ⟨q0, M1, v, Mm1, h1, h2, h3, h5, h6, hRl1⟩ := hS j T M Mm (xs (ix (x5 + 1))) hj hRl
  refine lc_h (As := [.ref (b 0), .int (xs (ix (x5 + 1))), .ref q1]) C0 hC hI (h_addMotion l hl0 g (J ++ pw 10 (shM g bm) bm Mm) r b H.size n T M q1 q2 o d (xs (ix (x5 + 1))) h1 h3) w_919 w_920 w_118 w_921 ⟨rfl, rfl⟩ hd_L_addMotion ⟨Nat.le_of_ble_eq_true rfl, Nat.le_of_ble_eq_true rfl⟩ rfl hl.1 rfl (Nat.le_of_ble_eq_true rfl) dL_law_860 ⟨by show _ ≤ 603072; omega, by show _ ≤ 7174250; omega⟩ (fun H locs hI => ?_)
  refine lv_istore (lv' := [(6, .int (cx [1, 0] q0)), (5, .int x5), (0, .ref bs), (1, .ref (b 0)), (2, .ref (bm 0)), (3, .ref q1), (4, .ref q2)]) C0.1 C0.2.1 dL_law_863 hl (by decide) rfl (fun ls hl => ?_)
  refine lv_aload_n C0.1 C0.2.1 dL_law_865 rfl (lv_at hl 4 rfl) ?_
  refine lv_aload_n C0.1 C0.2.1 dL_law_866 rfl (lv_at hl 2 rfl) ?_
  refine lv_iload C0.1 C0.2.1 dL_law_867 (lv_at hl 1 rfl) ?_
  refine lv_iconst (v := 1) C0.1 C0.2.1 dL_law_869 (by decide) ?_
  refine lv_iadd C0.1 C0.2.1 dL_law_870 ?_
  refine l_xs C0 hX hI (hi 1 (by decide) (by decide)) dL_law_871 ?_
  refine lm_i (As := [.int (xs (ix (x5 + 1)))]) C0 hC hI (c_X10_addMotion l g (xb g r T ++ (outs g q1 q2 (ou ciI o q0) d ++ J) ++ pw 372 (shI g r b) b M1) bm H.size n Mm (xs (ix (x5 + 1))) h2) w_1870 w_1871 w_1872 w_132 w_1873 ⟨rfl, rfl⟩ hd_X10_addMotion ⟨Nat.le_of_ble_eq_true rfl, Nat.le_of_ble_eq_true rfl⟩ rfl rfl hl.1 rfl (Nat.le_of_ble_eq_true rfl) dL_law_872 ⟨by show _ ≤ 603072; omega, by show _ ≤ 7174250; omega⟩ (fun H locs hI => ?_)
  refine lv_istore (lv' := [(7, .int v), (6, .int (cx [1, 0] q0)), (5, .int x5), (0, .ref bs), (1, .ref (b 0)), (2, .ref (bm 0)), (3, .ref q1), (4, .ref q2)]) C0.1 C0.2.1 dL_law_875 hl (by decide) rfl (fun ls hl => ?_)
  refine lv_aload_n C0.1 C0.2.1 dL_law_877 rfl (lv_at hl 5 rfl) ?_
  refine lm_i (As := []) C0 hC hI (c_X10_thrown l g (xb g r T ++ (outs g q1 q2 (ou ciI o q0) d ++ J) ++ pw 372 (shI g r b) b M1) bm H.size n Mm1 rfl) w_1752 w_1753 w_1754 w_132 w_1755 ⟨rfl, rfl⟩ hd_X10_thrown ⟨Nat.le_of_ble_eq_true rfl, Nat.le_of_ble_eq_true rfl⟩ rfl rfl hl.1 rfl (Nat.le_of_ble_eq_true rfl) dL_law_878 ⟨by show _ ≤ 603072; omega, by show _ ≤ 7174250; omega⟩ (fun H locs hI => ?_)
  refine lv_iload C0.1 C0.2.1 dL_law_881 (lv_at hl 1 rfl) ?_
  refine lv_icmp_eq (tgt := 888) C0.1 C0.2.1 dL_law_883 (by decide) (fun _ => ?_) (fun z => absurd h5 z)
  refine lv_iload C0.1 C0.2.1 dL_law_888 (lv_at hl 1 rfl) ?_
  refine lv_if_ne (tgt := 905) C0.1 C0.2.1 dL_law_890 (by decide) (fun cz => ?_) (fun cz => ?_)
  · skip
    refine lv_goto (tgt := 2968) C0.1 C0.2.1 dL_law_905 (by decide) ?_
    refine W.widen (k := ca + 40) (n := sa + 3200) (by omega) (by omega) ?_
    exact kk r T M1 Mm1 (ou ciI o q0) d J H locs ls hRl1 (lv_sub hl [2, 3, 4, 5, 6, 7] rfl) hI
  · obtain ⟨w, hw⟩ := cx_0 (by decide) cz
    refine lv_aload_n C0.1 C0.2.1 dL_law_893 rfl (lv_at hl 6 rfl) ?_
    refine lv_iconst (v := 0) C0.1 C0.2.1 dL_law_894 (by decide) ?_
    refine lc_lald C0 hC hI dL_law_895 ?_
    rw [our (f := ciI) hw, updL0]
    refine lv_iload C0.1 C0.2.1 dL_law_896 (lv_at hl 0 rfl) ?_
    refine lv_i2l C0.1 C0.2.1 dL_law_898 rfl ?_
    refine W.lcmp C0.1 C0.2.1 dL_law_899 ?_
    rw [show ciI w = v.toInt64 from by rw [h6 w hw], lg_eq]
    refine lv_if_eq (tgt := 905) C0.1 C0.2.1 dL_law_900 (by decide) (fun _ => ?_) (fun z => absurd rfl z)
    refine lv_goto (tgt := 2968) C0.1 C0.2.1 dL_law_905 (by decide) ?_
    refine W.widen (k := ca + 40) (n := sa + 3200) (by omega) (by omega) ?_
    exact kk r T M1 Mm1 (ou ciI o q0) d J H locs ls hRl1 (lv_sub hl [2, 3, 4, 5, 6, 7] rfl) hI

def SC_motionCount (n : Nat) (Rl : Nat → Mem → Mem → Mem → Prop) : Prop := ∀ (j : Nat) (T M Mm : Mem), j < 512 → Rl j T M Mm → ∃ (v : Int32) (Mm' : Mem), F_X9_motionCount n M = some v ∧ F_X10_motionCount n Mm = some (v, Mm') ∧ Rl (j + 1) T M Mm'
set_option maxHeartbeats 4000000 in
theorem law_motionCount {p : Program} {l : Launch} (hl0 : l.stackTraces = false) {e : Env} {s : State} {m : MethodId} {args : Array Value} {below : List Frame} {meth : Method} {c : Code} {Q : State → Prop} (C0 : CallFix p m c code 9 s args LWg RL) {g : GG} (hC : CC g (AL s) s) {bs L : Nat} {xs : Nat → Int32} (hX : LX bs L xs s) {b bm : Nat → Nat} {q1 q2 n j ca sa : Nat} (hca : ca + 40 ≤ 603072) (hsa : sa + 3200 ≤ 7174250) {x5 : Int32} (hi : ∀ k : Int32, 0 ≤ k → k ≤ 4 → vp_in (x5 + k) L) (hj : j < 512) {Rl : Nat → Mem → Mem → Mem → Prop} (hS : SC_motionCount n Rl)
    {r : Nat → Nat} {T M Mm : Mem} {o : Nat → Int64} {d : Nat → UInt64} {J : va_W} (hRl : Rl j T M Mm) {H : Heap} {locs : List Loc} {ls : Array Slot} (hl : lv_has ls 9 [(5, .int x5), (0, .ref bs), (1, .ref (b 0)), (2, .ref (bm 0)), (3, .ref q1), (4, .ref q2)]) (hI : KI g (AL s) s (LWc g r b bm q1 q2 T M Mm o d J) H locs)
    (kk : ∀ (r : Nat → Nat) (T M Mm : Mem) (o : Nat → Int64) (d : Nat → UInt64) (J : va_W) (H : Heap) (locs : List Loc) (ls : Array Slot), Rl (j + 1) T M Mm → lv_has ls 9 [(5, .int x5), (0, .ref bs), (1, .ref (b 0)), (2, .ref (bm 0)), (3, .ref q1), (4, .ref q2)] → KI g (AL s) s (LWc g r b bm q1 q2 T M Mm o d J) H locs → W p l e room_1 s m args below meth c H locs (ca + 40) (sa + 3200) Q (F0 m 2968 ls [])) :
    W p l e room_1 s m args below meth c H locs ca sa Q (F0 m 908 ls []) := by
  refine lv_aload_n C0.1 C0.2.1 dL_law_908 rfl (lv_at hl 2 rfl) ?_
  obtain ⟨v, Mm1, h1, h2, hRl1⟩ := hS j T M Mm hj hRl
  refine lc_i (As := []) C0 hC hI (c_X9_motionCount l g (xb g r T ++ (outs g q1 q2 o d ++ (J ++ pw 10 (shM g bm) bm Mm))) r b H.size n M h1) w_455 w_456 w_457 w_119 w_458 ⟨rfl, rfl⟩ hd_X9_motionCount ⟨Nat.le_of_ble_eq_true rfl, Nat.le_of_ble_eq_true rfl⟩ rfl rfl hl.1 rfl (Nat.le_of_ble_eq_true rfl) dL_law_909 ⟨by show _ ≤ 603072; omega, by show _ ≤ 7174250; omega⟩ (fun H locs hI => ?_)
  refine lv_aload_n C0.1 C0.2.1 dL_law_912 rfl (lv_at hl 3 rfl) ?_
  refine lm_i (As := []) C0 hC hI (c_X10_motionCount l g (xb g r T ++ (outs g q1 q2 o d ++ J) ++ pw 372 (shI g r b) b M) bm H.size n Mm h2) w_1881 w_1882 w_1883 w_132 w_1884 ⟨rfl, rfl⟩ hd_X10_motionCount ⟨Nat.le_of_ble_eq_true rfl, Nat.le_of_ble_eq_true rfl⟩ rfl rfl hl.1 rfl (Nat.le_of_ble_eq_true rfl) dL_law_913 ⟨by show _ ≤ 603072; omega, by show _ ≤ 7174250; omega⟩ (fun H locs hI => ?_)
  refine lv_icmp_eq (tgt := 2968) C0.1 C0.2.1 dL_law_916 (by decide) (fun _ => ?_) (fun z => absurd rfl z)
  refine W.widen (k := ca + 40) (n := sa + 3200) (by omega) (by omega) ?_
  exact kk r T M Mm1 o d J H locs ls hRl1 (lv_sub hl [0, 1, 2, 3, 4, 5] rfl) hI

def SC_isEntitled (n : Nat) (Rl : Nat → Mem → Mem → Mem → Prop) : Prop := ∀ (j : Nat) (T M Mm : Mem) (x1 : Int32) (x2 : Int32), j < 512 → Rl j T M Mm → ∃ (q0 : RX Int32) (v : Int32) (Mm' : Mem), F_X9_isEntitled n x1 x2 M = some q0 ∧ F_X10_isEntitled n x1 x2 Mm = some (v, Mm') ∧ (∀ k, q0 = .inl k → k = 2) ∧ Mm' 0 0 = cx [2] q0 ∧ (∀ w, q0 = .inr w → w = v) ∧ Rl (j + 1) T M Mm'
set_option maxHeartbeats 4000000 in
theorem law_isEntitled {p : Program} {l : Launch} (hl0 : l.stackTraces = false) {e : Env} {s : State} {m : MethodId} {args : Array Value} {below : List Frame} {meth : Method} {c : Code} {Q : State → Prop} (C0 : CallFix p m c code 9 s args LWg RL) {g : GG} (hC : CC g (AL s) s) {bs L : Nat} {xs : Nat → Int32} (hX : LX bs L xs s) {b bm : Nat → Nat} {q1 q2 n j ca sa : Nat} (hca : ca + 40 ≤ 603072) (hsa : sa + 3200 ≤ 7174250) {x5 : Int32} (hi : ∀ k : Int32, 0 ≤ k → k ≤ 4 → vp_in (x5 + k) L) (hj : j < 512) {Rl : Nat → Mem → Mem → Mem → Prop} (hS : SC_isEntitled n Rl)
    {r : Nat → Nat} {T M Mm : Mem} {o : Nat → Int64} {d : Nat → UInt64} {J : va_W} (hRl : Rl j T M Mm) {H : Heap} {locs : List Loc} {ls : Array Slot} (hl : lv_has ls 9 [(5, .int x5), (0, .ref bs), (1, .ref (b 0)), (2, .ref (bm 0)), (3, .ref q1), (4, .ref q2)]) (hI : KI g (AL s) s (LWc g r b bm q1 q2 T M Mm o d J) H locs)
    (kk : ∀ (r : Nat → Nat) (T M Mm : Mem) (o : Nat → Int64) (d : Nat → UInt64) (J : va_W) (H : Heap) (locs : List Loc) (ls : Array Slot), Rl (j + 1) T M Mm → lv_has ls 9 [(5, .int x5), (0, .ref bs), (1, .ref (b 0)), (2, .ref (bm 0)), (3, .ref q1), (4, .ref q2)] → KI g (AL s) s (LWc g r b bm q1 q2 T M Mm o d J) H locs → W p l e room_1 s m args below meth c H locs (ca + 40) (sa + 3200) Q (F0 m 2968 ls [])) :
    W p l e room_1 s m args below meth c H locs ca sa Q (F0 m 921 ls []) := by
  refine lv_aload_n C0.1 C0.2.1 dL_law_921 rfl (lv_at hl 2 rfl) ?_
  refine lv_aload_n C0.1 C0.2.1 dL_law_922 rfl (lv_at hl 1 rfl) ?_
  refine lv_iload C0.1 C0.2.1 dL_law_923 (lv_at hl 0 rfl) ?_
  refine lv_iconst (v := 1) C0.1 C0.2.1 dL_law_925 (by decide) ?_
  refine lv_iadd C0.1 C0.2.1 dL_law_926 ?_
  refine l_xs C0 hX hI (hi 1 (by decide) (by decide)) dL_law_927 ?_
  refine lv_aload_n C0.1 C0.2.1 dL_law_928 rfl (lv_at hl 1 rfl) ?_
  refine lv_iload C0.1 C0.2.1 dL_law_929 (lv_at hl 0 rfl) ?_
  refine lv_iconst (v := 2) C0.1 C0.2.1 dL_law_931 (by decide) ?_
  refine lv_iadd C0.1 C0.2.1 dL_law_932 ?_
  refine l_xs C0 hX hI (hi 2 (by decide) (by decide)) dL_law_933 ?_
  refine lv_aload_n C0.1 C0.2.1 dL_law_934 rfl (lv_at hl 4 rfl) ?_
  obtain ⟨q0, v, Mm1, h1, h2, h3, h5, h6, hRl1⟩ := hS j T M Mm (xs (ix (x5 + 1))) (xs (ix (x5 + 2))) hj hRl
  refine lc_h (As := [.ref (b 0), .int (xs (ix (x5 + 1))), .int (xs (ix (x5 + 2))), .ref q1]) C0 hC hI (h_isEntitled l hl0 g (J ++ pw 10 (shM g bm) bm Mm) r b H.size n T M q1 q2 o d (xs (ix (x5 + 1))) (xs (ix (x5 + 2))) h1 h3) w_936 w_937 w_118 w_938 ⟨rfl, rfl⟩ hd_L_isEntitled ⟨Nat.le_of_ble_eq_true rfl, Nat.le_of_ble_eq_true rfl⟩ rfl hl.1 rfl (Nat.le_of_ble_eq_true rfl) dL_law_935 ⟨by show _ ≤ 603072; omega, by show _ ≤ 7174250; omega⟩ (fun H locs hI => ?_)
  refine lv_istore (lv' := [(6, .int (cx [2] q0)), (5, .int x5), (0, .ref bs), (1, .ref (b 0)), (2, .ref (bm 0)), (3, .ref q1), (4, .ref q2)]) C0.1 C0.2.1 dL_law_938 hl (by decide) rfl (fun ls hl => ?_)
  refine lv_aload_n C0.1 C0.2.1 dL_law_940 rfl (lv_at hl 4 rfl) ?_
  refine lv_aload_n C0.1 C0.2.1 dL_law_941 rfl (lv_at hl 2 rfl) ?_
  refine lv_iload C0.1 C0.2.1 dL_law_942 (lv_at hl 1 rfl) ?_
  refine lv_iconst (v := 1) C0.1 C0.2.1 dL_law_944 (by decide) ?_
  refine lv_iadd C0.1 C0.2.1 dL_law_945 ?_
  refine l_xs C0 hX hI (hi 1 (by decide) (by decide)) dL_law_946 ?_
  refine lv_aload_n C0.1 C0.2.1 dL_law_947 rfl (lv_at hl 2 rfl) ?_
  refine lv_iload C0.1 C0.2.1 dL_law_948 (lv_at hl 1 rfl) ?_
  refine lv_iconst (v := 2) C0.1 C0.2.1 dL_law_950 (by decide) ?_
  refine lv_iadd C0.1 C0.2.1 dL_law_951 ?_
  refine l_xs C0 hX hI (hi 2 (by decide) (by decide)) dL_law_952 ?_
  refine lm_i (As := [.int (xs (ix (x5 + 1))), .int (xs (ix (x5 + 2)))]) C0 hC hI (c_X10_isEntitled l g (xb g r T ++ (outs g q1 q2 (ou ciZ o q0) d ++ J) ++ pw 372 (shI g r b) b M) bm H.size n Mm (xs (ix (x5 + 1))) (xs (ix (x5 + 2))) h2) w_1885 w_1886 w_1887 w_132 w_1888 ⟨rfl, rfl⟩ hd_X10_isEntitled ⟨Nat.le_of_ble_eq_true rfl, Nat.le_of_ble_eq_true rfl⟩ rfl rfl hl.1 rfl (Nat.le_of_ble_eq_true rfl) dL_law_953 ⟨by show _ ≤ 603072; omega, by show _ ≤ 7174250; omega⟩ (fun H locs hI => ?_)
  refine lv_istore (lv' := [(7, .int v), (6, .int (cx [2] q0)), (5, .int x5), (0, .ref bs), (1, .ref (b 0)), (2, .ref (bm 0)), (3, .ref q1), (4, .ref q2)]) C0.1 C0.2.1 dL_law_956 hl (by decide) rfl (fun ls hl => ?_)
  refine lv_aload_n C0.1 C0.2.1 dL_law_958 rfl (lv_at hl 5 rfl) ?_
  refine lm_i (As := []) C0 hC hI (c_X10_thrown l g (xb g r T ++ (outs g q1 q2 (ou ciZ o q0) d ++ J) ++ pw 372 (shI g r b) b M) bm H.size n Mm1 rfl) w_1752 w_1753 w_1754 w_132 w_1755 ⟨rfl, rfl⟩ hd_X10_thrown ⟨Nat.le_of_ble_eq_true rfl, Nat.le_of_ble_eq_true rfl⟩ rfl rfl hl.1 rfl (Nat.le_of_ble_eq_true rfl) dL_law_959 ⟨by show _ ≤ 603072; omega, by show _ ≤ 7174250; omega⟩ (fun H locs hI => ?_)
  refine lv_iload C0.1 C0.2.1 dL_law_962 (lv_at hl 1 rfl) ?_
  refine lv_icmp_eq (tgt := 969) C0.1 C0.2.1 dL_law_964 (by decide) (fun _ => ?_) (fun z => absurd h5 z)
  refine lv_iload C0.1 C0.2.1 dL_law_969 (lv_at hl 1 rfl) ?_
  refine lv_if_ne (tgt := 993) C0.1 C0.2.1 dL_law_971 (by decide) (fun cz => ?_) (fun cz => ?_)
  · skip
    refine lv_goto (tgt := 2968) C0.1 C0.2.1 dL_law_993 (by decide) ?_
    refine W.widen (k := ca + 40) (n := sa + 3200) (by omega) (by omega) ?_
    exact kk r T M Mm1 (ou ciZ o q0) d J H locs ls hRl1 (lv_sub hl [2, 3, 4, 5, 6, 7] rfl) hI
  · obtain ⟨w, hw⟩ := cx_0 (by decide) cz
    refine lv_aload_n C0.1 C0.2.1 dL_law_974 rfl (lv_at hl 6 rfl) ?_
    refine lv_iconst (v := 0) C0.1 C0.2.1 dL_law_975 (by decide) ?_
    refine lc_lald C0 hC hI dL_law_976 ?_
    rw [our (f := ciZ) hw, updL0]
    refine lv_iload C0.1 C0.2.1 dL_law_977 (lv_at hl 0 rfl) ?_
    refine lv_if_eq (tgt := 986) C0.1 C0.2.1 dL_law_979 (by decide) (fun cz_1 => ?_) (fun cz_1 => ?_)
    · skip
      have hz0 : ciZ w = 0 := by rw [h6 w hw]; exact if_pos cz_1
      refine lv_lconst (v := 0) C0.1 C0.2.1 dL_law_986 (by decide) ?_
      refine W.lcmp C0.1 C0.2.1 dL_law_987 ?_
      rw [hz0, lg_eq]
      refine lv_if_eq (tgt := 993) C0.1 C0.2.1 dL_law_988 (by decide) (fun _ => ?_) (fun z => absurd rfl z)
      refine lv_goto (tgt := 2968) C0.1 C0.2.1 dL_law_993 (by decide) ?_
      refine W.widen (k := ca + 40) (n := sa + 3200) (by omega) (by omega) ?_
      exact kk r T M Mm1 (ou ciZ o q0) d J H locs ls hRl1 (lv_sub hl [2, 3, 4, 5, 6, 7] rfl) hI
    · skip
      have hz0 : ciZ w = 1 := by rw [h6 w hw]; exact if_neg cz_1
      refine lv_lconst (v := 1) C0.1 C0.2.1 dL_law_982 (by decide) ?_
      refine lv_goto (tgt := 987) C0.1 C0.2.1 dL_law_983 (by decide) ?_
      refine W.lcmp C0.1 C0.2.1 dL_law_987 ?_
      rw [hz0, lg_eq]
      refine lv_if_eq (tgt := 993) C0.1 C0.2.1 dL_law_988 (by decide) (fun _ => ?_) (fun z => absurd rfl z)
      refine lv_goto (tgt := 2968) C0.1 C0.2.1 dL_law_993 (by decide) ?_
      refine W.widen (k := ca + 40) (n := sa + 3200) (by omega) (by omega) ?_
      exact kk r T M Mm1 (ou ciZ o q0) d J H locs ls hRl1 (lv_sub hl [2, 3, 4, 5, 6, 7] rfl) hI

def SC_signUp (n : Nat) (Rl : Nat → Mem → Mem → Mem → Prop) : Prop := ∀ (j : Nat) (T M Mm : Mem) (x1 : Int32) (x2 : Int32), j < 512 → Rl j T M Mm → ∃ (q0 : RX Int32) (M' : Mem) (v : Int32) (Mm' : Mem), F_X9_signUp n x1 x2 M = some (q0, M') ∧ F_X10_signUp n x1 x2 Mm = some (v, Mm') ∧ (∀ k, q0 = .inl k → k = 2 ∨ k = 1 ∨ k = 0 ∨ k = 4) ∧ Mm' 0 0 = cx [2, 1, 0, 4] q0 ∧ (∀ w, q0 = .inr w → w = v) ∧ Rl (j + 1) T M' Mm'
set_option maxHeartbeats 4000000 in
theorem law_signUp {p : Program} {l : Launch} (hl0 : l.stackTraces = false) {e : Env} {s : State} {m : MethodId} {args : Array Value} {below : List Frame} {meth : Method} {c : Code} {Q : State → Prop} (C0 : CallFix p m c code 9 s args LWg RL) {g : GG} (hC : CC g (AL s) s) {bs L : Nat} {xs : Nat → Int32} (hX : LX bs L xs s) {b bm : Nat → Nat} {q1 q2 n j ca sa : Nat} (hca : ca + 40 ≤ 603072) (hsa : sa + 3200 ≤ 7174250) {x5 : Int32} (hi : ∀ k : Int32, 0 ≤ k → k ≤ 4 → vp_in (x5 + k) L) (hj : j < 512) {Rl : Nat → Mem → Mem → Mem → Prop} (hS : SC_signUp n Rl)
    {r : Nat → Nat} {T M Mm : Mem} {o : Nat → Int64} {d : Nat → UInt64} {J : va_W} (hRl : Rl j T M Mm) {H : Heap} {locs : List Loc} {ls : Array Slot} (hl : lv_has ls 9 [(5, .int x5), (0, .ref bs), (1, .ref (b 0)), (2, .ref (bm 0)), (3, .ref q1), (4, .ref q2)]) (hI : KI g (AL s) s (LWc g r b bm q1 q2 T M Mm o d J) H locs)
    (kk : ∀ (r : Nat → Nat) (T M Mm : Mem) (o : Nat → Int64) (d : Nat → UInt64) (J : va_W) (H : Heap) (locs : List Loc) (ls : Array Slot), Rl (j + 1) T M Mm → lv_has ls 9 [(5, .int x5), (0, .ref bs), (1, .ref (b 0)), (2, .ref (bm 0)), (3, .ref q1), (4, .ref q2)] → KI g (AL s) s (LWc g r b bm q1 q2 T M Mm o d J) H locs → W p l e room_1 s m args below meth c H locs (ca + 40) (sa + 3200) Q (F0 m 2968 ls [])) :
    W p l e room_1 s m args below meth c H locs ca sa Q (F0 m 996 ls []) := by
  refine lv_aload_n C0.1 C0.2.1 dL_law_996 rfl (lv_at hl 2 rfl) ?_
  refine lv_aload_n C0.1 C0.2.1 dL_law_997 rfl (lv_at hl 1 rfl) ?_
  refine lv_iload C0.1 C0.2.1 dL_law_998 (lv_at hl 0 rfl) ?_
  refine lv_iconst (v := 1) C0.1 C0.2.1 dL_law_1000 (by decide) ?_
  refine lv_iadd C0.1 C0.2.1 dL_law_1001 ?_
  refine l_xs C0 hX hI (hi 1 (by decide) (by decide)) dL_law_1002 ?_
  refine lv_aload_n C0.1 C0.2.1 dL_law_1003 rfl (lv_at hl 1 rfl) ?_
  refine lv_iload C0.1 C0.2.1 dL_law_1004 (lv_at hl 0 rfl) ?_
  refine lv_iconst (v := 2) C0.1 C0.2.1 dL_law_1006 (by decide) ?_
  refine lv_iadd C0.1 C0.2.1 dL_law_1007 ?_
  refine l_xs C0 hX hI (hi 2 (by decide) (by decide)) dL_law_1008 ?_
  refine lv_aload_n C0.1 C0.2.1 dL_law_1009 rfl (lv_at hl 4 rfl) ?_
  obtain ⟨q0, M1, v, Mm1, h1, h2, h3, h5, h6, hRl1⟩ := hS j T M Mm (xs (ix (x5 + 1))) (xs (ix (x5 + 2))) hj hRl
  refine lc_h (As := [.ref (b 0), .int (xs (ix (x5 + 1))), .int (xs (ix (x5 + 2))), .ref q1]) C0 hC hI (h_signUp l hl0 g (J ++ pw 10 (shM g bm) bm Mm) r b H.size n T M q1 q2 o d (xs (ix (x5 + 1))) (xs (ix (x5 + 2))) h1 h3) w_951 w_952 w_118 w_953 ⟨rfl, rfl⟩ hd_L_signUp ⟨Nat.le_of_ble_eq_true rfl, Nat.le_of_ble_eq_true rfl⟩ rfl hl.1 rfl (Nat.le_of_ble_eq_true rfl) dL_law_1010 ⟨by show _ ≤ 603072; omega, by show _ ≤ 7174250; omega⟩ (fun H locs hI => ?_)
  refine lv_istore (lv' := [(6, .int (cx [2, 1, 0, 4] q0)), (5, .int x5), (0, .ref bs), (1, .ref (b 0)), (2, .ref (bm 0)), (3, .ref q1), (4, .ref q2)]) C0.1 C0.2.1 dL_law_1013 hl (by decide) rfl (fun ls hl => ?_)
  refine lv_aload_n C0.1 C0.2.1 dL_law_1015 rfl (lv_at hl 4 rfl) ?_
  refine lv_aload_n C0.1 C0.2.1 dL_law_1016 rfl (lv_at hl 2 rfl) ?_
  refine lv_iload C0.1 C0.2.1 dL_law_1017 (lv_at hl 1 rfl) ?_
  refine lv_iconst (v := 1) C0.1 C0.2.1 dL_law_1019 (by decide) ?_
  refine lv_iadd C0.1 C0.2.1 dL_law_1020 ?_
  refine l_xs C0 hX hI (hi 1 (by decide) (by decide)) dL_law_1021 ?_
  refine lv_aload_n C0.1 C0.2.1 dL_law_1022 rfl (lv_at hl 2 rfl) ?_
  refine lv_iload C0.1 C0.2.1 dL_law_1023 (lv_at hl 1 rfl) ?_
  refine lv_iconst (v := 2) C0.1 C0.2.1 dL_law_1025 (by decide) ?_
  refine lv_iadd C0.1 C0.2.1 dL_law_1026 ?_
  refine l_xs C0 hX hI (hi 2 (by decide) (by decide)) dL_law_1027 ?_
  refine lm_i (As := [.int (xs (ix (x5 + 1))), .int (xs (ix (x5 + 2)))]) C0 hC hI (c_X10_signUp l g (xb g r T ++ (outs g q1 q2 (ou ciI o q0) d ++ J) ++ pw 372 (shI g r b) b M1) bm H.size n Mm (xs (ix (x5 + 1))) (xs (ix (x5 + 2))) h2) w_1901 w_1902 w_1903 w_132 w_1904 ⟨rfl, rfl⟩ hd_X10_signUp ⟨Nat.le_of_ble_eq_true rfl, Nat.le_of_ble_eq_true rfl⟩ rfl rfl hl.1 rfl (Nat.le_of_ble_eq_true rfl) dL_law_1028 ⟨by show _ ≤ 603072; omega, by show _ ≤ 7174250; omega⟩ (fun H locs hI => ?_)
  refine lv_istore (lv' := [(7, .int v), (6, .int (cx [2, 1, 0, 4] q0)), (5, .int x5), (0, .ref bs), (1, .ref (b 0)), (2, .ref (bm 0)), (3, .ref q1), (4, .ref q2)]) C0.1 C0.2.1 dL_law_1031 hl (by decide) rfl (fun ls hl => ?_)
  refine lv_aload_n C0.1 C0.2.1 dL_law_1033 rfl (lv_at hl 5 rfl) ?_
  refine lm_i (As := []) C0 hC hI (c_X10_thrown l g (xb g r T ++ (outs g q1 q2 (ou ciI o q0) d ++ J) ++ pw 372 (shI g r b) b M1) bm H.size n Mm1 rfl) w_1752 w_1753 w_1754 w_132 w_1755 ⟨rfl, rfl⟩ hd_X10_thrown ⟨Nat.le_of_ble_eq_true rfl, Nat.le_of_ble_eq_true rfl⟩ rfl rfl hl.1 rfl (Nat.le_of_ble_eq_true rfl) dL_law_1034 ⟨by show _ ≤ 603072; omega, by show _ ≤ 7174250; omega⟩ (fun H locs hI => ?_)
  refine lv_iload C0.1 C0.2.1 dL_law_1037 (lv_at hl 1 rfl) ?_
  refine lv_icmp_eq (tgt := 1044) C0.1 C0.2.1 dL_law_1039 (by decide) (fun _ => ?_) (fun z => absurd h5 z)
  refine lv_iload C0.1 C0.2.1 dL_law_1044 (lv_at hl 1 rfl) ?_
  refine lv_if_ne (tgt := 1061) C0.1 C0.2.1 dL_law_1046 (by decide) (fun cz => ?_) (fun cz => ?_)
  · skip
    refine lv_goto (tgt := 2968) C0.1 C0.2.1 dL_law_1061 (by decide) ?_
    refine W.widen (k := ca + 40) (n := sa + 3200) (by omega) (by omega) ?_
    exact kk r T M1 Mm1 (ou ciI o q0) d J H locs ls hRl1 (lv_sub hl [2, 3, 4, 5, 6, 7] rfl) hI
  · obtain ⟨w, hw⟩ := cx_0 (by decide) cz
    refine lv_aload_n C0.1 C0.2.1 dL_law_1049 rfl (lv_at hl 6 rfl) ?_
    refine lv_iconst (v := 0) C0.1 C0.2.1 dL_law_1050 (by decide) ?_
    refine lc_lald C0 hC hI dL_law_1051 ?_
    rw [our (f := ciI) hw, updL0]
    refine lv_iload C0.1 C0.2.1 dL_law_1052 (lv_at hl 0 rfl) ?_
    refine lv_i2l C0.1 C0.2.1 dL_law_1054 rfl ?_
    refine W.lcmp C0.1 C0.2.1 dL_law_1055 ?_
    rw [show ciI w = v.toInt64 from by rw [h6 w hw], lg_eq]
    refine lv_if_eq (tgt := 1061) C0.1 C0.2.1 dL_law_1056 (by decide) (fun _ => ?_) (fun z => absurd rfl z)
    refine lv_goto (tgt := 2968) C0.1 C0.2.1 dL_law_1061 (by decide) ?_
    refine W.widen (k := ca + 40) (n := sa + 3200) (by omega) (by omega) ?_
    exact kk r T M1 Mm1 (ou ciI o q0) d J H locs ls hRl1 (lv_sub hl [2, 3, 4, 5, 6, 7] rfl) hI

def SC_strike (n : Nat) (Rl : Nat → Mem → Mem → Mem → Prop) : Prop := ∀ (j : Nat) (T M Mm : Mem) (x1 : Int32) (x2 : Int32), j < 512 → Rl j T M Mm → ∃ (q0 : RX Int32) (M' : Mem) (v : Int32) (Mm' : Mem), F_X9_strike n x1 x2 M = some (q0, M') ∧ F_X10_strike n x1 x2 Mm = some (v, Mm') ∧ (∀ k, q0 = .inl k → k = 2 ∨ k = 5) ∧ Mm' 0 0 = cx [2, 5] q0 ∧ (∀ w, q0 = .inr w → w = v) ∧ Rl (j + 1) T M' Mm'
set_option maxHeartbeats 4000000 in
theorem law_strike {p : Program} {l : Launch} (hl0 : l.stackTraces = false) {e : Env} {s : State} {m : MethodId} {args : Array Value} {below : List Frame} {meth : Method} {c : Code} {Q : State → Prop} (C0 : CallFix p m c code 9 s args LWg RL) {g : GG} (hC : CC g (AL s) s) {bs L : Nat} {xs : Nat → Int32} (hX : LX bs L xs s) {b bm : Nat → Nat} {q1 q2 n j ca sa : Nat} (hca : ca + 40 ≤ 603072) (hsa : sa + 3200 ≤ 7174250) {x5 : Int32} (hi : ∀ k : Int32, 0 ≤ k → k ≤ 4 → vp_in (x5 + k) L) (hj : j < 512) {Rl : Nat → Mem → Mem → Mem → Prop} (hS : SC_strike n Rl)
    {r : Nat → Nat} {T M Mm : Mem} {o : Nat → Int64} {d : Nat → UInt64} {J : va_W} (hRl : Rl j T M Mm) {H : Heap} {locs : List Loc} {ls : Array Slot} (hl : lv_has ls 9 [(5, .int x5), (0, .ref bs), (1, .ref (b 0)), (2, .ref (bm 0)), (3, .ref q1), (4, .ref q2)]) (hI : KI g (AL s) s (LWc g r b bm q1 q2 T M Mm o d J) H locs)
    (kk : ∀ (r : Nat → Nat) (T M Mm : Mem) (o : Nat → Int64) (d : Nat → UInt64) (J : va_W) (H : Heap) (locs : List Loc) (ls : Array Slot), Rl (j + 1) T M Mm → lv_has ls 9 [(5, .int x5), (0, .ref bs), (1, .ref (b 0)), (2, .ref (bm 0)), (3, .ref q1), (4, .ref q2)] → KI g (AL s) s (LWc g r b bm q1 q2 T M Mm o d J) H locs → W p l e room_1 s m args below meth c H locs (ca + 40) (sa + 3200) Q (F0 m 2968 ls [])) :
    W p l e room_1 s m args below meth c H locs ca sa Q (F0 m 1064 ls []) := by
  refine lv_aload_n C0.1 C0.2.1 dL_law_1064 rfl (lv_at hl 2 rfl) ?_
  refine lv_aload_n C0.1 C0.2.1 dL_law_1065 rfl (lv_at hl 1 rfl) ?_
  refine lv_iload C0.1 C0.2.1 dL_law_1066 (lv_at hl 0 rfl) ?_
  refine lv_iconst (v := 1) C0.1 C0.2.1 dL_law_1068 (by decide) ?_
  refine lv_iadd C0.1 C0.2.1 dL_law_1069 ?_
  refine l_xs C0 hX hI (hi 1 (by decide) (by decide)) dL_law_1070 ?_
  refine lv_aload_n C0.1 C0.2.1 dL_law_1071 rfl (lv_at hl 1 rfl) ?_
  refine lv_iload C0.1 C0.2.1 dL_law_1072 (lv_at hl 0 rfl) ?_
  refine lv_iconst (v := 2) C0.1 C0.2.1 dL_law_1074 (by decide) ?_
  refine lv_iadd C0.1 C0.2.1 dL_law_1075 ?_
  refine l_xs C0 hX hI (hi 2 (by decide) (by decide)) dL_law_1076 ?_
  refine lv_aload_n C0.1 C0.2.1 dL_law_1077 rfl (lv_at hl 4 rfl) ?_
  obtain ⟨q0, M1, v, Mm1, h1, h2, h3, h5, h6, hRl1⟩ := hS j T M Mm (xs (ix (x5 + 1))) (xs (ix (x5 + 2))) hj hRl
  refine lc_h (As := [.ref (b 0), .int (xs (ix (x5 + 1))), .int (xs (ix (x5 + 2))), .ref q1]) C0 hC hI (h_strike l hl0 g (J ++ pw 10 (shM g bm) bm Mm) r b H.size n T M q1 q2 o d (xs (ix (x5 + 1))) (xs (ix (x5 + 2))) h1 h3) w_989 w_990 w_118 w_991 ⟨rfl, rfl⟩ hd_L_strike ⟨Nat.le_of_ble_eq_true rfl, Nat.le_of_ble_eq_true rfl⟩ rfl hl.1 rfl (Nat.le_of_ble_eq_true rfl) dL_law_1078 ⟨by show _ ≤ 603072; omega, by show _ ≤ 7174250; omega⟩ (fun H locs hI => ?_)
  refine lv_istore (lv' := [(6, .int (cx [2, 5] q0)), (5, .int x5), (0, .ref bs), (1, .ref (b 0)), (2, .ref (bm 0)), (3, .ref q1), (4, .ref q2)]) C0.1 C0.2.1 dL_law_1081 hl (by decide) rfl (fun ls hl => ?_)
  refine lv_aload_n C0.1 C0.2.1 dL_law_1083 rfl (lv_at hl 4 rfl) ?_
  refine lv_aload_n C0.1 C0.2.1 dL_law_1084 rfl (lv_at hl 2 rfl) ?_
  refine lv_iload C0.1 C0.2.1 dL_law_1085 (lv_at hl 1 rfl) ?_
  refine lv_iconst (v := 1) C0.1 C0.2.1 dL_law_1087 (by decide) ?_
  refine lv_iadd C0.1 C0.2.1 dL_law_1088 ?_
  refine l_xs C0 hX hI (hi 1 (by decide) (by decide)) dL_law_1089 ?_
  refine lv_aload_n C0.1 C0.2.1 dL_law_1090 rfl (lv_at hl 2 rfl) ?_
  refine lv_iload C0.1 C0.2.1 dL_law_1091 (lv_at hl 1 rfl) ?_
  refine lv_iconst (v := 2) C0.1 C0.2.1 dL_law_1093 (by decide) ?_
  refine lv_iadd C0.1 C0.2.1 dL_law_1094 ?_
  refine l_xs C0 hX hI (hi 2 (by decide) (by decide)) dL_law_1095 ?_
  refine lm_i (As := [.int (xs (ix (x5 + 1))), .int (xs (ix (x5 + 2)))]) C0 hC hI (c_X10_strike l g (xb g r T ++ (outs g q1 q2 (ou ciI o q0) d ++ J) ++ pw 372 (shI g r b) b M1) bm H.size n Mm (xs (ix (x5 + 1))) (xs (ix (x5 + 2))) h2) w_1920 w_1921 w_1922 w_132 w_1923 ⟨rfl, rfl⟩ hd_X10_strike ⟨Nat.le_of_ble_eq_true rfl, Nat.le_of_ble_eq_true rfl⟩ rfl rfl hl.1 rfl (Nat.le_of_ble_eq_true rfl) dL_law_1096 ⟨by show _ ≤ 603072; omega, by show _ ≤ 7174250; omega⟩ (fun H locs hI => ?_)
  refine lv_istore (lv' := [(7, .int v), (6, .int (cx [2, 5] q0)), (5, .int x5), (0, .ref bs), (1, .ref (b 0)), (2, .ref (bm 0)), (3, .ref q1), (4, .ref q2)]) C0.1 C0.2.1 dL_law_1099 hl (by decide) rfl (fun ls hl => ?_)
  refine lv_aload_n C0.1 C0.2.1 dL_law_1101 rfl (lv_at hl 5 rfl) ?_
  refine lm_i (As := []) C0 hC hI (c_X10_thrown l g (xb g r T ++ (outs g q1 q2 (ou ciI o q0) d ++ J) ++ pw 372 (shI g r b) b M1) bm H.size n Mm1 rfl) w_1752 w_1753 w_1754 w_132 w_1755 ⟨rfl, rfl⟩ hd_X10_thrown ⟨Nat.le_of_ble_eq_true rfl, Nat.le_of_ble_eq_true rfl⟩ rfl rfl hl.1 rfl (Nat.le_of_ble_eq_true rfl) dL_law_1102 ⟨by show _ ≤ 603072; omega, by show _ ≤ 7174250; omega⟩ (fun H locs hI => ?_)
  refine lv_iload C0.1 C0.2.1 dL_law_1105 (lv_at hl 1 rfl) ?_
  refine lv_icmp_eq (tgt := 1112) C0.1 C0.2.1 dL_law_1107 (by decide) (fun _ => ?_) (fun z => absurd h5 z)
  refine lv_iload C0.1 C0.2.1 dL_law_1112 (lv_at hl 1 rfl) ?_
  refine lv_if_ne (tgt := 1129) C0.1 C0.2.1 dL_law_1114 (by decide) (fun cz => ?_) (fun cz => ?_)
  · skip
    refine lv_goto (tgt := 2968) C0.1 C0.2.1 dL_law_1129 (by decide) ?_
    refine W.widen (k := ca + 40) (n := sa + 3200) (by omega) (by omega) ?_
    exact kk r T M1 Mm1 (ou ciI o q0) d J H locs ls hRl1 (lv_sub hl [2, 3, 4, 5, 6, 7] rfl) hI
  · obtain ⟨w, hw⟩ := cx_0 (by decide) cz
    refine lv_aload_n C0.1 C0.2.1 dL_law_1117 rfl (lv_at hl 6 rfl) ?_
    refine lv_iconst (v := 0) C0.1 C0.2.1 dL_law_1118 (by decide) ?_
    refine lc_lald C0 hC hI dL_law_1119 ?_
    rw [our (f := ciI) hw, updL0]
    refine lv_iload C0.1 C0.2.1 dL_law_1120 (lv_at hl 0 rfl) ?_
    refine lv_i2l C0.1 C0.2.1 dL_law_1122 rfl ?_
    refine W.lcmp C0.1 C0.2.1 dL_law_1123 ?_
    rw [show ciI w = v.toInt64 from by rw [h6 w hw], lg_eq]
    refine lv_if_eq (tgt := 1129) C0.1 C0.2.1 dL_law_1124 (by decide) (fun _ => ?_) (fun z => absurd rfl z)
    refine lv_goto (tgt := 2968) C0.1 C0.2.1 dL_law_1129 (by decide) ?_
    refine W.widen (k := ca + 40) (n := sa + 3200) (by omega) (by omega) ?_
    exact kk r T M1 Mm1 (ou ciI o q0) d J H locs ls hRl1 (lv_sub hl [2, 3, 4, 5, 6, 7] rfl) hI

def SC_callNext (n : Nat) (Rl : Nat → Mem → Mem → Mem → Prop) : Prop := ∀ (j : Nat) (T M Mm : Mem) (x1 : Int32), j < 512 → Rl j T M Mm → ∃ (q0 : RX Int32) (M' : Mem) (v : Int32) (Mm' : Mem), F_X9_callNext n x1 M = some (q0, M') ∧ F_X10_callNext n x1 Mm = some (v, Mm') ∧ (∀ k, q0 = .inl k → k = 2 ∨ k = 5) ∧ Mm' 0 0 = cx [2, 5] q0 ∧ (∀ w, q0 = .inr w → w = v) ∧ Rl (j + 1) T M' Mm'
set_option maxHeartbeats 4000000 in
theorem law_callNext {p : Program} {l : Launch} (hl0 : l.stackTraces = false) {e : Env} {s : State} {m : MethodId} {args : Array Value} {below : List Frame} {meth : Method} {c : Code} {Q : State → Prop} (C0 : CallFix p m c code 9 s args LWg RL) {g : GG} (hC : CC g (AL s) s) {bs L : Nat} {xs : Nat → Int32} (hX : LX bs L xs s) {b bm : Nat → Nat} {q1 q2 n j ca sa : Nat} (hca : ca + 40 ≤ 603072) (hsa : sa + 3200 ≤ 7174250) {x5 : Int32} (hi : ∀ k : Int32, 0 ≤ k → k ≤ 4 → vp_in (x5 + k) L) (hj : j < 512) {Rl : Nat → Mem → Mem → Mem → Prop} (hS : SC_callNext n Rl)
    {r : Nat → Nat} {T M Mm : Mem} {o : Nat → Int64} {d : Nat → UInt64} {J : va_W} (hRl : Rl j T M Mm) {H : Heap} {locs : List Loc} {ls : Array Slot} (hl : lv_has ls 9 [(5, .int x5), (0, .ref bs), (1, .ref (b 0)), (2, .ref (bm 0)), (3, .ref q1), (4, .ref q2)]) (hI : KI g (AL s) s (LWc g r b bm q1 q2 T M Mm o d J) H locs)
    (kk : ∀ (r : Nat → Nat) (T M Mm : Mem) (o : Nat → Int64) (d : Nat → UInt64) (J : va_W) (H : Heap) (locs : List Loc) (ls : Array Slot), Rl (j + 1) T M Mm → lv_has ls 9 [(5, .int x5), (0, .ref bs), (1, .ref (b 0)), (2, .ref (bm 0)), (3, .ref q1), (4, .ref q2)] → KI g (AL s) s (LWc g r b bm q1 q2 T M Mm o d J) H locs → W p l e room_1 s m args below meth c H locs (ca + 40) (sa + 3200) Q (F0 m 2968 ls [])) :
    W p l e room_1 s m args below meth c H locs ca sa Q (F0 m 1132 ls []) := by
  refine lv_aload_n C0.1 C0.2.1 dL_law_1132 rfl (lv_at hl 2 rfl) ?_
  refine lv_aload_n C0.1 C0.2.1 dL_law_1133 rfl (lv_at hl 1 rfl) ?_
  refine lv_iload C0.1 C0.2.1 dL_law_1134 (lv_at hl 0 rfl) ?_
  refine lv_iconst (v := 1) C0.1 C0.2.1 dL_law_1136 (by decide) ?_
  refine lv_iadd C0.1 C0.2.1 dL_law_1137 ?_
  refine l_xs C0 hX hI (hi 1 (by decide) (by decide)) dL_law_1138 ?_
  refine lv_aload_n C0.1 C0.2.1 dL_law_1139 rfl (lv_at hl 4 rfl) ?_
  obtain ⟨q0, M1, v, Mm1, h1, h2, h3, h5, h6, hRl1⟩ := hS j T M Mm (xs (ix (x5 + 1))) hj hRl
  refine lc_h (As := [.ref (b 0), .int (xs (ix (x5 + 1))), .ref q1]) C0 hC hI (h_callNext l hl0 g (J ++ pw 10 (shM g bm) bm Mm) r b H.size n T M q1 q2 o d (xs (ix (x5 + 1))) h1 h3) w_1010 w_1011 w_118 w_1012 ⟨rfl, rfl⟩ hd_L_callNext ⟨Nat.le_of_ble_eq_true rfl, Nat.le_of_ble_eq_true rfl⟩ rfl hl.1 rfl (Nat.le_of_ble_eq_true rfl) dL_law_1140 ⟨by show _ ≤ 603072; omega, by show _ ≤ 7174250; omega⟩ (fun H locs hI => ?_)
  refine lv_istore (lv' := [(6, .int (cx [2, 5] q0)), (5, .int x5), (0, .ref bs), (1, .ref (b 0)), (2, .ref (bm 0)), (3, .ref q1), (4, .ref q2)]) C0.1 C0.2.1 dL_law_1143 hl (by decide) rfl (fun ls hl => ?_)
  refine lv_aload_n C0.1 C0.2.1 dL_law_1145 rfl (lv_at hl 4 rfl) ?_
  refine lv_aload_n C0.1 C0.2.1 dL_law_1146 rfl (lv_at hl 2 rfl) ?_
  refine lv_iload C0.1 C0.2.1 dL_law_1147 (lv_at hl 1 rfl) ?_
  refine lv_iconst (v := 1) C0.1 C0.2.1 dL_law_1149 (by decide) ?_
  refine lv_iadd C0.1 C0.2.1 dL_law_1150 ?_
  refine l_xs C0 hX hI (hi 1 (by decide) (by decide)) dL_law_1151 ?_
  refine lm_i (As := [.int (xs (ix (x5 + 1)))]) C0 hC hI (c_X10_callNext l g (xb g r T ++ (outs g q1 q2 (ou ciZ o q0) d ++ J) ++ pw 372 (shI g r b) b M1) bm H.size n Mm (xs (ix (x5 + 1))) h2) w_1932 w_1933 w_1934 w_132 w_1935 ⟨rfl, rfl⟩ hd_X10_callNext ⟨Nat.le_of_ble_eq_true rfl, Nat.le_of_ble_eq_true rfl⟩ rfl rfl hl.1 rfl (Nat.le_of_ble_eq_true rfl) dL_law_1152 ⟨by show _ ≤ 603072; omega, by show _ ≤ 7174250; omega⟩ (fun H locs hI => ?_)
  refine lv_istore (lv' := [(7, .int v), (6, .int (cx [2, 5] q0)), (5, .int x5), (0, .ref bs), (1, .ref (b 0)), (2, .ref (bm 0)), (3, .ref q1), (4, .ref q2)]) C0.1 C0.2.1 dL_law_1155 hl (by decide) rfl (fun ls hl => ?_)
  refine lv_aload_n C0.1 C0.2.1 dL_law_1157 rfl (lv_at hl 5 rfl) ?_
  refine lm_i (As := []) C0 hC hI (c_X10_thrown l g (xb g r T ++ (outs g q1 q2 (ou ciZ o q0) d ++ J) ++ pw 372 (shI g r b) b M1) bm H.size n Mm1 rfl) w_1752 w_1753 w_1754 w_132 w_1755 ⟨rfl, rfl⟩ hd_X10_thrown ⟨Nat.le_of_ble_eq_true rfl, Nat.le_of_ble_eq_true rfl⟩ rfl rfl hl.1 rfl (Nat.le_of_ble_eq_true rfl) dL_law_1158 ⟨by show _ ≤ 603072; omega, by show _ ≤ 7174250; omega⟩ (fun H locs hI => ?_)
  refine lv_iload C0.1 C0.2.1 dL_law_1161 (lv_at hl 1 rfl) ?_
  refine lv_icmp_eq (tgt := 1168) C0.1 C0.2.1 dL_law_1163 (by decide) (fun _ => ?_) (fun z => absurd h5 z)
  refine lv_iload C0.1 C0.2.1 dL_law_1168 (lv_at hl 1 rfl) ?_
  refine lv_if_ne (tgt := 1192) C0.1 C0.2.1 dL_law_1170 (by decide) (fun cz => ?_) (fun cz => ?_)
  · skip
    refine lv_goto (tgt := 2968) C0.1 C0.2.1 dL_law_1192 (by decide) ?_
    refine W.widen (k := ca + 40) (n := sa + 3200) (by omega) (by omega) ?_
    exact kk r T M1 Mm1 (ou ciZ o q0) d J H locs ls hRl1 (lv_sub hl [2, 3, 4, 5, 6, 7] rfl) hI
  · obtain ⟨w, hw⟩ := cx_0 (by decide) cz
    refine lv_aload_n C0.1 C0.2.1 dL_law_1173 rfl (lv_at hl 6 rfl) ?_
    refine lv_iconst (v := 0) C0.1 C0.2.1 dL_law_1174 (by decide) ?_
    refine lc_lald C0 hC hI dL_law_1175 ?_
    rw [our (f := ciZ) hw, updL0]
    refine lv_iload C0.1 C0.2.1 dL_law_1176 (lv_at hl 0 rfl) ?_
    refine lv_if_eq (tgt := 1185) C0.1 C0.2.1 dL_law_1178 (by decide) (fun cz_1 => ?_) (fun cz_1 => ?_)
    · skip
      have hz0 : ciZ w = 0 := by rw [h6 w hw]; exact if_pos cz_1
      refine lv_lconst (v := 0) C0.1 C0.2.1 dL_law_1185 (by decide) ?_
      refine W.lcmp C0.1 C0.2.1 dL_law_1186 ?_
      rw [hz0, lg_eq]
      refine lv_if_eq (tgt := 1192) C0.1 C0.2.1 dL_law_1187 (by decide) (fun _ => ?_) (fun z => absurd rfl z)
      refine lv_goto (tgt := 2968) C0.1 C0.2.1 dL_law_1192 (by decide) ?_
      refine W.widen (k := ca + 40) (n := sa + 3200) (by omega) (by omega) ?_
      exact kk r T M1 Mm1 (ou ciZ o q0) d J H locs ls hRl1 (lv_sub hl [2, 3, 4, 5, 6, 7] rfl) hI
    · skip
      have hz0 : ciZ w = 1 := by rw [h6 w hw]; exact if_neg cz_1
      refine lv_lconst (v := 1) C0.1 C0.2.1 dL_law_1181 (by decide) ?_
      refine lv_goto (tgt := 1186) C0.1 C0.2.1 dL_law_1182 (by decide) ?_
      refine W.lcmp C0.1 C0.2.1 dL_law_1186 ?_
      rw [hz0, lg_eq]
      refine lv_if_eq (tgt := 1192) C0.1 C0.2.1 dL_law_1187 (by decide) (fun _ => ?_) (fun z => absurd rfl z)
      refine lv_goto (tgt := 2968) C0.1 C0.2.1 dL_law_1192 (by decide) ?_
      refine W.widen (k := ca + 40) (n := sa + 3200) (by omega) (by omega) ?_
      exact kk r T M1 Mm1 (ou ciZ o q0) d J H locs ls hRl1 (lv_sub hl [2, 3, 4, 5, 6, 7] rfl) hI

def SC_listLength (n : Nat) (Rl : Nat → Mem → Mem → Mem → Prop) : Prop := ∀ (j : Nat) (T M Mm : Mem) (x1 : Int32), j < 512 → Rl j T M Mm → ∃ (q0 : RX Int32) (v : Int32) (Mm' : Mem), F_X9_listLength n x1 M = some q0 ∧ F_X10_listLength n x1 Mm = some (v, Mm') ∧ (∀ k, q0 = .inl k → k = 2) ∧ Mm' 0 0 = cx [2] q0 ∧ (∀ w, q0 = .inr w → w = v) ∧ Rl (j + 1) T M Mm'
set_option maxHeartbeats 4000000 in
theorem law_listLength {p : Program} {l : Launch} (hl0 : l.stackTraces = false) {e : Env} {s : State} {m : MethodId} {args : Array Value} {below : List Frame} {meth : Method} {c : Code} {Q : State → Prop} (C0 : CallFix p m c code 9 s args LWg RL) {g : GG} (hC : CC g (AL s) s) {bs L : Nat} {xs : Nat → Int32} (hX : LX bs L xs s) {b bm : Nat → Nat} {q1 q2 n j ca sa : Nat} (hca : ca + 40 ≤ 603072) (hsa : sa + 3200 ≤ 7174250) {x5 : Int32} (hi : ∀ k : Int32, 0 ≤ k → k ≤ 4 → vp_in (x5 + k) L) (hj : j < 512) {Rl : Nat → Mem → Mem → Mem → Prop} (hS : SC_listLength n Rl)
    {r : Nat → Nat} {T M Mm : Mem} {o : Nat → Int64} {d : Nat → UInt64} {J : va_W} (hRl : Rl j T M Mm) {H : Heap} {locs : List Loc} {ls : Array Slot} (hl : lv_has ls 9 [(5, .int x5), (0, .ref bs), (1, .ref (b 0)), (2, .ref (bm 0)), (3, .ref q1), (4, .ref q2)]) (hI : KI g (AL s) s (LWc g r b bm q1 q2 T M Mm o d J) H locs)
    (kk : ∀ (r : Nat → Nat) (T M Mm : Mem) (o : Nat → Int64) (d : Nat → UInt64) (J : va_W) (H : Heap) (locs : List Loc) (ls : Array Slot), Rl (j + 1) T M Mm → lv_has ls 9 [(5, .int x5), (0, .ref bs), (1, .ref (b 0)), (2, .ref (bm 0)), (3, .ref q1), (4, .ref q2)] → KI g (AL s) s (LWc g r b bm q1 q2 T M Mm o d J) H locs → W p l e room_1 s m args below meth c H locs (ca + 40) (sa + 3200) Q (F0 m 2968 ls [])) :
    W p l e room_1 s m args below meth c H locs ca sa Q (F0 m 1195 ls []) := by
  refine lv_aload_n C0.1 C0.2.1 dL_law_1195 rfl (lv_at hl 2 rfl) ?_
  refine lv_aload_n C0.1 C0.2.1 dL_law_1196 rfl (lv_at hl 1 rfl) ?_
  refine lv_iload C0.1 C0.2.1 dL_law_1197 (lv_at hl 0 rfl) ?_
  refine lv_iconst (v := 1) C0.1 C0.2.1 dL_law_1199 (by decide) ?_
  refine lv_iadd C0.1 C0.2.1 dL_law_1200 ?_
  refine l_xs C0 hX hI (hi 1 (by decide) (by decide)) dL_law_1201 ?_
  refine lv_aload_n C0.1 C0.2.1 dL_law_1202 rfl (lv_at hl 4 rfl) ?_
  obtain ⟨q0, v, Mm1, h1, h2, h3, h5, h6, hRl1⟩ := hS j T M Mm (xs (ix (x5 + 1))) hj hRl
  refine lc_h (As := [.ref (b 0), .int (xs (ix (x5 + 1))), .ref q1]) C0 hC hI (h_listLength l hl0 g (J ++ pw 10 (shM g bm) bm Mm) r b H.size n T M q1 q2 o d (xs (ix (x5 + 1))) h1 h3) w_1022 w_1023 w_118 w_1024 ⟨rfl, rfl⟩ hd_L_listLength ⟨Nat.le_of_ble_eq_true rfl, Nat.le_of_ble_eq_true rfl⟩ rfl hl.1 rfl (Nat.le_of_ble_eq_true rfl) dL_law_1203 ⟨by show _ ≤ 603072; omega, by show _ ≤ 7174250; omega⟩ (fun H locs hI => ?_)
  refine lv_istore (lv' := [(6, .int (cx [2] q0)), (5, .int x5), (0, .ref bs), (1, .ref (b 0)), (2, .ref (bm 0)), (3, .ref q1), (4, .ref q2)]) C0.1 C0.2.1 dL_law_1206 hl (by decide) rfl (fun ls hl => ?_)
  refine lv_aload_n C0.1 C0.2.1 dL_law_1208 rfl (lv_at hl 4 rfl) ?_
  refine lv_aload_n C0.1 C0.2.1 dL_law_1209 rfl (lv_at hl 2 rfl) ?_
  refine lv_iload C0.1 C0.2.1 dL_law_1210 (lv_at hl 1 rfl) ?_
  refine lv_iconst (v := 1) C0.1 C0.2.1 dL_law_1212 (by decide) ?_
  refine lv_iadd C0.1 C0.2.1 dL_law_1213 ?_
  refine l_xs C0 hX hI (hi 1 (by decide) (by decide)) dL_law_1214 ?_
  refine lm_i (As := [.int (xs (ix (x5 + 1)))]) C0 hC hI (c_X10_listLength l g (xb g r T ++ (outs g q1 q2 (ou ciI o q0) d ++ J) ++ pw 372 (shI g r b) b M) bm H.size n Mm (xs (ix (x5 + 1))) h2) w_1948 w_1949 w_1950 w_132 w_1951 ⟨rfl, rfl⟩ hd_X10_listLength ⟨Nat.le_of_ble_eq_true rfl, Nat.le_of_ble_eq_true rfl⟩ rfl rfl hl.1 rfl (Nat.le_of_ble_eq_true rfl) dL_law_1215 ⟨by show _ ≤ 603072; omega, by show _ ≤ 7174250; omega⟩ (fun H locs hI => ?_)
  refine lv_istore (lv' := [(7, .int v), (6, .int (cx [2] q0)), (5, .int x5), (0, .ref bs), (1, .ref (b 0)), (2, .ref (bm 0)), (3, .ref q1), (4, .ref q2)]) C0.1 C0.2.1 dL_law_1218 hl (by decide) rfl (fun ls hl => ?_)
  refine lv_aload_n C0.1 C0.2.1 dL_law_1220 rfl (lv_at hl 5 rfl) ?_
  refine lm_i (As := []) C0 hC hI (c_X10_thrown l g (xb g r T ++ (outs g q1 q2 (ou ciI o q0) d ++ J) ++ pw 372 (shI g r b) b M) bm H.size n Mm1 rfl) w_1752 w_1753 w_1754 w_132 w_1755 ⟨rfl, rfl⟩ hd_X10_thrown ⟨Nat.le_of_ble_eq_true rfl, Nat.le_of_ble_eq_true rfl⟩ rfl rfl hl.1 rfl (Nat.le_of_ble_eq_true rfl) dL_law_1221 ⟨by show _ ≤ 603072; omega, by show _ ≤ 7174250; omega⟩ (fun H locs hI => ?_)
  refine lv_iload C0.1 C0.2.1 dL_law_1224 (lv_at hl 1 rfl) ?_
  refine lv_icmp_eq (tgt := 1231) C0.1 C0.2.1 dL_law_1226 (by decide) (fun _ => ?_) (fun z => absurd h5 z)
  refine lv_iload C0.1 C0.2.1 dL_law_1231 (lv_at hl 1 rfl) ?_
  refine lv_if_ne (tgt := 1248) C0.1 C0.2.1 dL_law_1233 (by decide) (fun cz => ?_) (fun cz => ?_)
  · skip
    refine lv_goto (tgt := 2968) C0.1 C0.2.1 dL_law_1248 (by decide) ?_
    refine W.widen (k := ca + 40) (n := sa + 3200) (by omega) (by omega) ?_
    exact kk r T M Mm1 (ou ciI o q0) d J H locs ls hRl1 (lv_sub hl [2, 3, 4, 5, 6, 7] rfl) hI
  · obtain ⟨w, hw⟩ := cx_0 (by decide) cz
    refine lv_aload_n C0.1 C0.2.1 dL_law_1236 rfl (lv_at hl 6 rfl) ?_
    refine lv_iconst (v := 0) C0.1 C0.2.1 dL_law_1237 (by decide) ?_
    refine lc_lald C0 hC hI dL_law_1238 ?_
    rw [our (f := ciI) hw, updL0]
    refine lv_iload C0.1 C0.2.1 dL_law_1239 (lv_at hl 0 rfl) ?_
    refine lv_i2l C0.1 C0.2.1 dL_law_1241 rfl ?_
    refine W.lcmp C0.1 C0.2.1 dL_law_1242 ?_
    rw [show ciI w = v.toInt64 from by rw [h6 w hw], lg_eq]
    refine lv_if_eq (tgt := 1248) C0.1 C0.2.1 dL_law_1243 (by decide) (fun _ => ?_) (fun z => absurd rfl z)
    refine lv_goto (tgt := 2968) C0.1 C0.2.1 dL_law_1248 (by decide) ?_
    refine W.widen (k := ca + 40) (n := sa + 3200) (by omega) (by omega) ?_
    exact kk r T M Mm1 (ou ciI o q0) d J H locs ls hRl1 (lv_sub hl [2, 3, 4, 5, 6, 7] rfl) hI

def SC_nextFrog (n : Nat) (Rl : Nat → Mem → Mem → Mem → Prop) : Prop := ∀ (j : Nat) (T M Mm : Mem) (x1 : Int32), j < 512 → Rl j T M Mm → ∃ (q0 : RX Int32) (M' : Mem) (v : Int32) (Mm' : Mem), F_X9_nextFrog n x1 M = some (q0, M') ∧ F_X10_nextFrog n x1 Mm = some (v, Mm') ∧ (∀ k, q0 = .inl k → k = 2 ∨ k = 5) ∧ Mm' 0 0 = cx [2, 5] q0 ∧ (∀ w, q0 = .inr w → w = v) ∧ Rl (j + 1) T M' Mm'
set_option maxHeartbeats 4000000 in
theorem law_nextFrog {p : Program} {l : Launch} (hl0 : l.stackTraces = false) {e : Env} {s : State} {m : MethodId} {args : Array Value} {below : List Frame} {meth : Method} {c : Code} {Q : State → Prop} (C0 : CallFix p m c code 9 s args LWg RL) {g : GG} (hC : CC g (AL s) s) {bs L : Nat} {xs : Nat → Int32} (hX : LX bs L xs s) {b bm : Nat → Nat} {q1 q2 n j ca sa : Nat} (hca : ca + 40 ≤ 603072) (hsa : sa + 3200 ≤ 7174250) {x5 : Int32} (hi : ∀ k : Int32, 0 ≤ k → k ≤ 4 → vp_in (x5 + k) L) (hj : j < 512) {Rl : Nat → Mem → Mem → Mem → Prop} (hS : SC_nextFrog n Rl)
    {r : Nat → Nat} {T M Mm : Mem} {o : Nat → Int64} {d : Nat → UInt64} {J : va_W} (hRl : Rl j T M Mm) {H : Heap} {locs : List Loc} {ls : Array Slot} (hl : lv_has ls 9 [(5, .int x5), (0, .ref bs), (1, .ref (b 0)), (2, .ref (bm 0)), (3, .ref q1), (4, .ref q2)]) (hI : KI g (AL s) s (LWc g r b bm q1 q2 T M Mm o d J) H locs)
    (kk : ∀ (r : Nat → Nat) (T M Mm : Mem) (o : Nat → Int64) (d : Nat → UInt64) (J : va_W) (H : Heap) (locs : List Loc) (ls : Array Slot), Rl (j + 1) T M Mm → lv_has ls 9 [(5, .int x5), (0, .ref bs), (1, .ref (b 0)), (2, .ref (bm 0)), (3, .ref q1), (4, .ref q2)] → KI g (AL s) s (LWc g r b bm q1 q2 T M Mm o d J) H locs → W p l e room_1 s m args below meth c H locs (ca + 40) (sa + 3200) Q (F0 m 2968 ls [])) :
    W p l e room_1 s m args below meth c H locs ca sa Q (F0 m 1251 ls []) := by
  refine lv_aload_n C0.1 C0.2.1 dL_law_1251 rfl (lv_at hl 2 rfl) ?_
  refine lv_aload_n C0.1 C0.2.1 dL_law_1252 rfl (lv_at hl 1 rfl) ?_
  refine lv_iload C0.1 C0.2.1 dL_law_1253 (lv_at hl 0 rfl) ?_
  refine lv_iconst (v := 1) C0.1 C0.2.1 dL_law_1255 (by decide) ?_
  refine lv_iadd C0.1 C0.2.1 dL_law_1256 ?_
  refine l_xs C0 hX hI (hi 1 (by decide) (by decide)) dL_law_1257 ?_
  refine lv_aload_n C0.1 C0.2.1 dL_law_1258 rfl (lv_at hl 4 rfl) ?_
  obtain ⟨q0, M1, v, Mm1, h1, h2, h3, h5, h6, hRl1⟩ := hS j T M Mm (xs (ix (x5 + 1))) hj hRl
  refine lc_h (As := [.ref (b 0), .int (xs (ix (x5 + 1))), .ref q1]) C0 hC hI (h_nextFrog l hl0 g (J ++ pw 10 (shM g bm) bm Mm) r b H.size n T M q1 q2 o d (xs (ix (x5 + 1))) h1 h3) w_1026 w_1027 w_118 w_1028 ⟨rfl, rfl⟩ hd_L_nextFrog ⟨Nat.le_of_ble_eq_true rfl, Nat.le_of_ble_eq_true rfl⟩ rfl hl.1 rfl (Nat.le_of_ble_eq_true rfl) dL_law_1259 ⟨by show _ ≤ 603072; omega, by show _ ≤ 7174250; omega⟩ (fun H locs hI => ?_)
  refine lv_istore (lv' := [(6, .int (cx [2, 5] q0)), (5, .int x5), (0, .ref bs), (1, .ref (b 0)), (2, .ref (bm 0)), (3, .ref q1), (4, .ref q2)]) C0.1 C0.2.1 dL_law_1262 hl (by decide) rfl (fun ls hl => ?_)
  refine lv_aload_n C0.1 C0.2.1 dL_law_1264 rfl (lv_at hl 4 rfl) ?_
  refine lv_aload_n C0.1 C0.2.1 dL_law_1265 rfl (lv_at hl 2 rfl) ?_
  refine lv_iload C0.1 C0.2.1 dL_law_1266 (lv_at hl 1 rfl) ?_
  refine lv_iconst (v := 1) C0.1 C0.2.1 dL_law_1268 (by decide) ?_
  refine lv_iadd C0.1 C0.2.1 dL_law_1269 ?_
  refine l_xs C0 hX hI (hi 1 (by decide) (by decide)) dL_law_1270 ?_
  refine lm_i (As := [.int (xs (ix (x5 + 1)))]) C0 hC hI (c_X10_nextFrog l g (xb g r T ++ (outs g q1 q2 (ou ciI o q0) d ++ J) ++ pw 372 (shI g r b) b M1) bm H.size n Mm (xs (ix (x5 + 1))) h2) w_1956 w_1957 w_1958 w_132 w_1959 ⟨rfl, rfl⟩ hd_X10_nextFrog ⟨Nat.le_of_ble_eq_true rfl, Nat.le_of_ble_eq_true rfl⟩ rfl rfl hl.1 rfl (Nat.le_of_ble_eq_true rfl) dL_law_1271 ⟨by show _ ≤ 603072; omega, by show _ ≤ 7174250; omega⟩ (fun H locs hI => ?_)
  refine lv_istore (lv' := [(7, .int v), (6, .int (cx [2, 5] q0)), (5, .int x5), (0, .ref bs), (1, .ref (b 0)), (2, .ref (bm 0)), (3, .ref q1), (4, .ref q2)]) C0.1 C0.2.1 dL_law_1274 hl (by decide) rfl (fun ls hl => ?_)
  refine lv_aload_n C0.1 C0.2.1 dL_law_1276 rfl (lv_at hl 5 rfl) ?_
  refine lm_i (As := []) C0 hC hI (c_X10_thrown l g (xb g r T ++ (outs g q1 q2 (ou ciI o q0) d ++ J) ++ pw 372 (shI g r b) b M1) bm H.size n Mm1 rfl) w_1752 w_1753 w_1754 w_132 w_1755 ⟨rfl, rfl⟩ hd_X10_thrown ⟨Nat.le_of_ble_eq_true rfl, Nat.le_of_ble_eq_true rfl⟩ rfl rfl hl.1 rfl (Nat.le_of_ble_eq_true rfl) dL_law_1277 ⟨by show _ ≤ 603072; omega, by show _ ≤ 7174250; omega⟩ (fun H locs hI => ?_)
  refine lv_iload C0.1 C0.2.1 dL_law_1280 (lv_at hl 1 rfl) ?_
  refine lv_icmp_eq (tgt := 1287) C0.1 C0.2.1 dL_law_1282 (by decide) (fun _ => ?_) (fun z => absurd h5 z)
  refine lv_iload C0.1 C0.2.1 dL_law_1287 (lv_at hl 1 rfl) ?_
  refine lv_if_ne (tgt := 1304) C0.1 C0.2.1 dL_law_1289 (by decide) (fun cz => ?_) (fun cz => ?_)
  · skip
    refine lv_goto (tgt := 2968) C0.1 C0.2.1 dL_law_1304 (by decide) ?_
    refine W.widen (k := ca + 40) (n := sa + 3200) (by omega) (by omega) ?_
    exact kk r T M1 Mm1 (ou ciI o q0) d J H locs ls hRl1 (lv_sub hl [2, 3, 4, 5, 6, 7] rfl) hI
  · obtain ⟨w, hw⟩ := cx_0 (by decide) cz
    refine lv_aload_n C0.1 C0.2.1 dL_law_1292 rfl (lv_at hl 6 rfl) ?_
    refine lv_iconst (v := 0) C0.1 C0.2.1 dL_law_1293 (by decide) ?_
    refine lc_lald C0 hC hI dL_law_1294 ?_
    rw [our (f := ciI) hw, updL0]
    refine lv_iload C0.1 C0.2.1 dL_law_1295 (lv_at hl 0 rfl) ?_
    refine lv_i2l C0.1 C0.2.1 dL_law_1297 rfl ?_
    refine W.lcmp C0.1 C0.2.1 dL_law_1298 ?_
    rw [show ciI w = v.toInt64 from by rw [h6 w hw], lg_eq]
    refine lv_if_eq (tgt := 1304) C0.1 C0.2.1 dL_law_1299 (by decide) (fun _ => ?_) (fun z => absurd rfl z)
    refine lv_goto (tgt := 2968) C0.1 C0.2.1 dL_law_1304 (by decide) ?_
    refine W.widen (k := ca + 40) (n := sa + 3200) (by omega) (by omega) ?_
    exact kk r T M1 Mm1 (ou ciI o q0) d J H locs ls hRl1 (lv_sub hl [2, 3, 4, 5, 6, 7] rfl) hI

def SC_nextFrogByScan (n : Nat) (Rl : Nat → Mem → Mem → Mem → Prop) : Prop := ∀ (j : Nat) (T M Mm : Mem) (x1 : Int32), j < 512 → Rl j T M Mm → ∃ (q0 : RX Int32) (v : Int32) (Mm' : Mem), F_X9_nextFrogByScan n x1 M = some q0 ∧ F_X10_nextFrogByScan n x1 Mm = some (v, Mm') ∧ (∀ k, q0 = .inl k → k = 2 ∨ k = 5) ∧ Mm' 0 0 = cx [2, 5] q0 ∧ (∀ w, q0 = .inr w → w = v) ∧ Rl (j + 1) T M Mm'
set_option maxHeartbeats 4000000 in
theorem law_nextFrogByScan {p : Program} {l : Launch} (hl0 : l.stackTraces = false) {e : Env} {s : State} {m : MethodId} {args : Array Value} {below : List Frame} {meth : Method} {c : Code} {Q : State → Prop} (C0 : CallFix p m c code 9 s args LWg RL) {g : GG} (hC : CC g (AL s) s) {bs L : Nat} {xs : Nat → Int32} (hX : LX bs L xs s) {b bm : Nat → Nat} {q1 q2 n j ca sa : Nat} (hca : ca + 40 ≤ 603072) (hsa : sa + 3200 ≤ 7174250) {x5 : Int32} (hi : ∀ k : Int32, 0 ≤ k → k ≤ 4 → vp_in (x5 + k) L) (hj : j < 512) {Rl : Nat → Mem → Mem → Mem → Prop} (hS : SC_nextFrogByScan n Rl)
    {r : Nat → Nat} {T M Mm : Mem} {o : Nat → Int64} {d : Nat → UInt64} {J : va_W} (hRl : Rl j T M Mm) {H : Heap} {locs : List Loc} {ls : Array Slot} (hl : lv_has ls 9 [(5, .int x5), (0, .ref bs), (1, .ref (b 0)), (2, .ref (bm 0)), (3, .ref q1), (4, .ref q2)]) (hI : KI g (AL s) s (LWc g r b bm q1 q2 T M Mm o d J) H locs)
    (kk : ∀ (r : Nat → Nat) (T M Mm : Mem) (o : Nat → Int64) (d : Nat → UInt64) (J : va_W) (H : Heap) (locs : List Loc) (ls : Array Slot), Rl (j + 1) T M Mm → lv_has ls 9 [(5, .int x5), (0, .ref bs), (1, .ref (b 0)), (2, .ref (bm 0)), (3, .ref q1), (4, .ref q2)] → KI g (AL s) s (LWc g r b bm q1 q2 T M Mm o d J) H locs → W p l e room_1 s m args below meth c H locs (ca + 40) (sa + 3200) Q (F0 m 2968 ls [])) :
    W p l e room_1 s m args below meth c H locs ca sa Q (F0 m 1307 ls []) := by
  refine lv_aload_n C0.1 C0.2.1 dL_law_1307 rfl (lv_at hl 2 rfl) ?_
  refine lv_aload_n C0.1 C0.2.1 dL_law_1308 rfl (lv_at hl 1 rfl) ?_
  refine lv_iload C0.1 C0.2.1 dL_law_1309 (lv_at hl 0 rfl) ?_
  refine lv_iconst (v := 1) C0.1 C0.2.1 dL_law_1311 (by decide) ?_
  refine lv_iadd C0.1 C0.2.1 dL_law_1312 ?_
  refine l_xs C0 hX hI (hi 1 (by decide) (by decide)) dL_law_1313 ?_
  refine lv_aload_n C0.1 C0.2.1 dL_law_1314 rfl (lv_at hl 4 rfl) ?_
  obtain ⟨q0, v, Mm1, h1, h2, h3, h5, h6, hRl1⟩ := hS j T M Mm (xs (ix (x5 + 1))) hj hRl
  refine lc_h (As := [.ref (b 0), .int (xs (ix (x5 + 1))), .ref q1]) C0 hC hI (h_nextFrogByScan l hl0 g (J ++ pw 10 (shM g bm) bm Mm) r b H.size n T M q1 q2 o d (xs (ix (x5 + 1))) h1 h3) w_1030 w_1031 w_118 w_1032 ⟨rfl, rfl⟩ hd_L_nextFrogByScan ⟨Nat.le_of_ble_eq_true rfl, Nat.le_of_ble_eq_true rfl⟩ rfl hl.1 rfl (Nat.le_of_ble_eq_true rfl) dL_law_1315 ⟨by show _ ≤ 603072; omega, by show _ ≤ 7174250; omega⟩ (fun H locs hI => ?_)
  refine lv_istore (lv' := [(6, .int (cx [2, 5] q0)), (5, .int x5), (0, .ref bs), (1, .ref (b 0)), (2, .ref (bm 0)), (3, .ref q1), (4, .ref q2)]) C0.1 C0.2.1 dL_law_1318 hl (by decide) rfl (fun ls hl => ?_)
  refine lv_aload_n C0.1 C0.2.1 dL_law_1320 rfl (lv_at hl 4 rfl) ?_
  refine lv_aload_n C0.1 C0.2.1 dL_law_1321 rfl (lv_at hl 2 rfl) ?_
  refine lv_iload C0.1 C0.2.1 dL_law_1322 (lv_at hl 1 rfl) ?_
  refine lv_iconst (v := 1) C0.1 C0.2.1 dL_law_1324 (by decide) ?_
  refine lv_iadd C0.1 C0.2.1 dL_law_1325 ?_
  refine l_xs C0 hX hI (hi 1 (by decide) (by decide)) dL_law_1326 ?_
  refine lm_i (As := [.int (xs (ix (x5 + 1)))]) C0 hC hI (c_X10_nextFrogByScan l g (xb g r T ++ (outs g q1 q2 (ou ciI o q0) d ++ J) ++ pw 372 (shI g r b) b M) bm H.size n Mm (xs (ix (x5 + 1))) h2) w_1960 w_1961 w_1962 w_132 w_1963 ⟨rfl, rfl⟩ hd_X10_nextFrogByScan ⟨Nat.le_of_ble_eq_true rfl, Nat.le_of_ble_eq_true rfl⟩ rfl rfl hl.1 rfl (Nat.le_of_ble_eq_true rfl) dL_law_1327 ⟨by show _ ≤ 603072; omega, by show _ ≤ 7174250; omega⟩ (fun H locs hI => ?_)
  refine lv_istore (lv' := [(7, .int v), (6, .int (cx [2, 5] q0)), (5, .int x5), (0, .ref bs), (1, .ref (b 0)), (2, .ref (bm 0)), (3, .ref q1), (4, .ref q2)]) C0.1 C0.2.1 dL_law_1330 hl (by decide) rfl (fun ls hl => ?_)
  refine lv_aload_n C0.1 C0.2.1 dL_law_1332 rfl (lv_at hl 5 rfl) ?_
  refine lm_i (As := []) C0 hC hI (c_X10_thrown l g (xb g r T ++ (outs g q1 q2 (ou ciI o q0) d ++ J) ++ pw 372 (shI g r b) b M) bm H.size n Mm1 rfl) w_1752 w_1753 w_1754 w_132 w_1755 ⟨rfl, rfl⟩ hd_X10_thrown ⟨Nat.le_of_ble_eq_true rfl, Nat.le_of_ble_eq_true rfl⟩ rfl rfl hl.1 rfl (Nat.le_of_ble_eq_true rfl) dL_law_1333 ⟨by show _ ≤ 603072; omega, by show _ ≤ 7174250; omega⟩ (fun H locs hI => ?_)
  refine lv_iload C0.1 C0.2.1 dL_law_1336 (lv_at hl 1 rfl) ?_
  refine lv_icmp_eq (tgt := 1343) C0.1 C0.2.1 dL_law_1338 (by decide) (fun _ => ?_) (fun z => absurd h5 z)
  refine lv_iload C0.1 C0.2.1 dL_law_1343 (lv_at hl 1 rfl) ?_
  refine lv_if_ne (tgt := 1360) C0.1 C0.2.1 dL_law_1345 (by decide) (fun cz => ?_) (fun cz => ?_)
  · skip
    refine lv_goto (tgt := 2968) C0.1 C0.2.1 dL_law_1360 (by decide) ?_
    refine W.widen (k := ca + 40) (n := sa + 3200) (by omega) (by omega) ?_
    exact kk r T M Mm1 (ou ciI o q0) d J H locs ls hRl1 (lv_sub hl [2, 3, 4, 5, 6, 7] rfl) hI
  · obtain ⟨w, hw⟩ := cx_0 (by decide) cz
    refine lv_aload_n C0.1 C0.2.1 dL_law_1348 rfl (lv_at hl 6 rfl) ?_
    refine lv_iconst (v := 0) C0.1 C0.2.1 dL_law_1349 (by decide) ?_
    refine lc_lald C0 hC hI dL_law_1350 ?_
    rw [our (f := ciI) hw, updL0]
    refine lv_iload C0.1 C0.2.1 dL_law_1351 (lv_at hl 0 rfl) ?_
    refine lv_i2l C0.1 C0.2.1 dL_law_1353 rfl ?_
    refine W.lcmp C0.1 C0.2.1 dL_law_1354 ?_
    rw [show ciI w = v.toInt64 from by rw [h6 w hw], lg_eq]
    refine lv_if_eq (tgt := 1360) C0.1 C0.2.1 dL_law_1355 (by decide) (fun _ => ?_) (fun z => absurd rfl z)
    refine lv_goto (tgt := 2968) C0.1 C0.2.1 dL_law_1360 (by decide) ?_
    refine W.widen (k := ca + 40) (n := sa + 3200) (by omega) (by omega) ?_
    exact kk r T M Mm1 (ou ciI o q0) d J H locs ls hRl1 (lv_sub hl [2, 3, 4, 5, 6, 7] rfl) hI

def SC_frogsBefore (n : Nat) (Rl : Nat → Mem → Mem → Mem → Prop) : Prop := ∀ (j : Nat) (T M Mm : Mem) (x1 : Int32) (x2 : Int32), j < 512 → Rl j T M Mm → ∃ (q0 : RX Int32) (v : Int32) (Mm' : Mem), F_X9_frogsBefore n x1 x2 M = some q0 ∧ F_X10_frogsBefore n x1 x2 Mm = some (v, Mm') ∧ (∀ k, q0 = .inl k → k = 2 ∨ k = 5) ∧ Mm' 0 0 = cx [2, 5] q0 ∧ (∀ w, q0 = .inr w → w = v) ∧ Rl (j + 1) T M Mm'
set_option maxHeartbeats 4000000 in
theorem law_frogsBefore {p : Program} {l : Launch} (hl0 : l.stackTraces = false) {e : Env} {s : State} {m : MethodId} {args : Array Value} {below : List Frame} {meth : Method} {c : Code} {Q : State → Prop} (C0 : CallFix p m c code 9 s args LWg RL) {g : GG} (hC : CC g (AL s) s) {bs L : Nat} {xs : Nat → Int32} (hX : LX bs L xs s) {b bm : Nat → Nat} {q1 q2 n j ca sa : Nat} (hca : ca + 40 ≤ 603072) (hsa : sa + 3200 ≤ 7174250) {x5 : Int32} (hi : ∀ k : Int32, 0 ≤ k → k ≤ 4 → vp_in (x5 + k) L) (hj : j < 512) {Rl : Nat → Mem → Mem → Mem → Prop} (hS : SC_frogsBefore n Rl)
    {r : Nat → Nat} {T M Mm : Mem} {o : Nat → Int64} {d : Nat → UInt64} {J : va_W} (hRl : Rl j T M Mm) {H : Heap} {locs : List Loc} {ls : Array Slot} (hl : lv_has ls 9 [(5, .int x5), (0, .ref bs), (1, .ref (b 0)), (2, .ref (bm 0)), (3, .ref q1), (4, .ref q2)]) (hI : KI g (AL s) s (LWc g r b bm q1 q2 T M Mm o d J) H locs)
    (kk : ∀ (r : Nat → Nat) (T M Mm : Mem) (o : Nat → Int64) (d : Nat → UInt64) (J : va_W) (H : Heap) (locs : List Loc) (ls : Array Slot), Rl (j + 1) T M Mm → lv_has ls 9 [(5, .int x5), (0, .ref bs), (1, .ref (b 0)), (2, .ref (bm 0)), (3, .ref q1), (4, .ref q2)] → KI g (AL s) s (LWc g r b bm q1 q2 T M Mm o d J) H locs → W p l e room_1 s m args below meth c H locs (ca + 40) (sa + 3200) Q (F0 m 2968 ls [])) :
    W p l e room_1 s m args below meth c H locs ca sa Q (F0 m 1363 ls []) := by
  refine lv_aload_n C0.1 C0.2.1 dL_law_1363 rfl (lv_at hl 2 rfl) ?_
  refine lv_aload_n C0.1 C0.2.1 dL_law_1364 rfl (lv_at hl 1 rfl) ?_
  refine lv_iload C0.1 C0.2.1 dL_law_1365 (lv_at hl 0 rfl) ?_
  refine lv_iconst (v := 1) C0.1 C0.2.1 dL_law_1367 (by decide) ?_
  refine lv_iadd C0.1 C0.2.1 dL_law_1368 ?_
  refine l_xs C0 hX hI (hi 1 (by decide) (by decide)) dL_law_1369 ?_
  refine lv_aload_n C0.1 C0.2.1 dL_law_1370 rfl (lv_at hl 1 rfl) ?_
  refine lv_iload C0.1 C0.2.1 dL_law_1371 (lv_at hl 0 rfl) ?_
  refine lv_iconst (v := 2) C0.1 C0.2.1 dL_law_1373 (by decide) ?_
  refine lv_iadd C0.1 C0.2.1 dL_law_1374 ?_
  refine l_xs C0 hX hI (hi 2 (by decide) (by decide)) dL_law_1375 ?_
  refine lv_aload_n C0.1 C0.2.1 dL_law_1376 rfl (lv_at hl 4 rfl) ?_
  obtain ⟨q0, v, Mm1, h1, h2, h3, h5, h6, hRl1⟩ := hS j T M Mm (xs (ix (x5 + 1))) (xs (ix (x5 + 2))) hj hRl
  refine lc_h (As := [.ref (b 0), .int (xs (ix (x5 + 1))), .int (xs (ix (x5 + 2))), .ref q1]) C0 hC hI (h_frogsBefore l hl0 g (J ++ pw 10 (shM g bm) bm Mm) r b H.size n T M q1 q2 o d (xs (ix (x5 + 1))) (xs (ix (x5 + 2))) h1 h3) w_1034 w_1035 w_118 w_1036 ⟨rfl, rfl⟩ hd_L_frogsBefore ⟨Nat.le_of_ble_eq_true rfl, Nat.le_of_ble_eq_true rfl⟩ rfl hl.1 rfl (Nat.le_of_ble_eq_true rfl) dL_law_1377 ⟨by show _ ≤ 603072; omega, by show _ ≤ 7174250; omega⟩ (fun H locs hI => ?_)
  refine lv_istore (lv' := [(6, .int (cx [2, 5] q0)), (5, .int x5), (0, .ref bs), (1, .ref (b 0)), (2, .ref (bm 0)), (3, .ref q1), (4, .ref q2)]) C0.1 C0.2.1 dL_law_1380 hl (by decide) rfl (fun ls hl => ?_)
  refine lv_aload_n C0.1 C0.2.1 dL_law_1382 rfl (lv_at hl 4 rfl) ?_
  refine lv_aload_n C0.1 C0.2.1 dL_law_1383 rfl (lv_at hl 2 rfl) ?_
  refine lv_iload C0.1 C0.2.1 dL_law_1384 (lv_at hl 1 rfl) ?_
  refine lv_iconst (v := 1) C0.1 C0.2.1 dL_law_1386 (by decide) ?_
  refine lv_iadd C0.1 C0.2.1 dL_law_1387 ?_
  refine l_xs C0 hX hI (hi 1 (by decide) (by decide)) dL_law_1388 ?_
  refine lv_aload_n C0.1 C0.2.1 dL_law_1389 rfl (lv_at hl 2 rfl) ?_
  refine lv_iload C0.1 C0.2.1 dL_law_1390 (lv_at hl 1 rfl) ?_
  refine lv_iconst (v := 2) C0.1 C0.2.1 dL_law_1392 (by decide) ?_
  refine lv_iadd C0.1 C0.2.1 dL_law_1393 ?_
  refine l_xs C0 hX hI (hi 2 (by decide) (by decide)) dL_law_1394 ?_
  refine lm_i (As := [.int (xs (ix (x5 + 1))), .int (xs (ix (x5 + 2)))]) C0 hC hI (c_X10_frogsBefore l g (xb g r T ++ (outs g q1 q2 (ou ciI o q0) d ++ J) ++ pw 372 (shI g r b) b M) bm H.size n Mm (xs (ix (x5 + 1))) (xs (ix (x5 + 2))) h2) w_1965 w_1966 w_1967 w_132 w_1968 ⟨rfl, rfl⟩ hd_X10_frogsBefore ⟨Nat.le_of_ble_eq_true rfl, Nat.le_of_ble_eq_true rfl⟩ rfl rfl hl.1 rfl (Nat.le_of_ble_eq_true rfl) dL_law_1395 ⟨by show _ ≤ 603072; omega, by show _ ≤ 7174250; omega⟩ (fun H locs hI => ?_)
  refine lv_istore (lv' := [(7, .int v), (6, .int (cx [2, 5] q0)), (5, .int x5), (0, .ref bs), (1, .ref (b 0)), (2, .ref (bm 0)), (3, .ref q1), (4, .ref q2)]) C0.1 C0.2.1 dL_law_1398 hl (by decide) rfl (fun ls hl => ?_)
  refine lv_aload_n C0.1 C0.2.1 dL_law_1400 rfl (lv_at hl 5 rfl) ?_
  refine lm_i (As := []) C0 hC hI (c_X10_thrown l g (xb g r T ++ (outs g q1 q2 (ou ciI o q0) d ++ J) ++ pw 372 (shI g r b) b M) bm H.size n Mm1 rfl) w_1752 w_1753 w_1754 w_132 w_1755 ⟨rfl, rfl⟩ hd_X10_thrown ⟨Nat.le_of_ble_eq_true rfl, Nat.le_of_ble_eq_true rfl⟩ rfl rfl hl.1 rfl (Nat.le_of_ble_eq_true rfl) dL_law_1401 ⟨by show _ ≤ 603072; omega, by show _ ≤ 7174250; omega⟩ (fun H locs hI => ?_)
  refine lv_iload C0.1 C0.2.1 dL_law_1404 (lv_at hl 1 rfl) ?_
  refine lv_icmp_eq (tgt := 1411) C0.1 C0.2.1 dL_law_1406 (by decide) (fun _ => ?_) (fun z => absurd h5 z)
  refine lv_iload C0.1 C0.2.1 dL_law_1411 (lv_at hl 1 rfl) ?_
  refine lv_if_ne (tgt := 1428) C0.1 C0.2.1 dL_law_1413 (by decide) (fun cz => ?_) (fun cz => ?_)
  · skip
    refine lv_goto (tgt := 2968) C0.1 C0.2.1 dL_law_1428 (by decide) ?_
    refine W.widen (k := ca + 40) (n := sa + 3200) (by omega) (by omega) ?_
    exact kk r T M Mm1 (ou ciI o q0) d J H locs ls hRl1 (lv_sub hl [2, 3, 4, 5, 6, 7] rfl) hI
  · obtain ⟨w, hw⟩ := cx_0 (by decide) cz
    refine lv_aload_n C0.1 C0.2.1 dL_law_1416 rfl (lv_at hl 6 rfl) ?_
    refine lv_iconst (v := 0) C0.1 C0.2.1 dL_law_1417 (by decide) ?_
    refine lc_lald C0 hC hI dL_law_1418 ?_
    rw [our (f := ciI) hw, updL0]
    refine lv_iload C0.1 C0.2.1 dL_law_1419 (lv_at hl 0 rfl) ?_
    refine lv_i2l C0.1 C0.2.1 dL_law_1421 rfl ?_
    refine W.lcmp C0.1 C0.2.1 dL_law_1422 ?_
    rw [show ciI w = v.toInt64 from by rw [h6 w hw], lg_eq]
    refine lv_if_eq (tgt := 1428) C0.1 C0.2.1 dL_law_1423 (by decide) (fun _ => ?_) (fun z => absurd rfl z)
    refine lv_goto (tgt := 2968) C0.1 C0.2.1 dL_law_1428 (by decide) ?_
    refine W.widen (k := ca + 40) (n := sa + 3200) (by omega) (by omega) ?_
    exact kk r T M Mm1 (ou ciI o q0) d J H locs ls hRl1 (lv_sub hl [2, 3, 4, 5, 6, 7] rfl) hI

def SC_speeches (n : Nat) (Rl : Nat → Mem → Mem → Mem → Prop) : Prop := ∀ (j : Nat) (T M Mm : Mem) (x1 : Int32), j < 512 → Rl j T M Mm → ∃ (q0 : RX Int32) (v : Int32) (Mm' : Mem), F_X9_speeches n x1 M = some q0 ∧ F_X10_speeches n x1 Mm = some (v, Mm') ∧ (∀ k, q0 = .inl k → k = 2) ∧ Mm' 0 0 = cx [2] q0 ∧ (∀ w, q0 = .inr w → w = v) ∧ Rl (j + 1) T M Mm'
set_option maxHeartbeats 4000000 in
theorem law_speeches {p : Program} {l : Launch} (hl0 : l.stackTraces = false) {e : Env} {s : State} {m : MethodId} {args : Array Value} {below : List Frame} {meth : Method} {c : Code} {Q : State → Prop} (C0 : CallFix p m c code 9 s args LWg RL) {g : GG} (hC : CC g (AL s) s) {bs L : Nat} {xs : Nat → Int32} (hX : LX bs L xs s) {b bm : Nat → Nat} {q1 q2 n j ca sa : Nat} (hca : ca + 40 ≤ 603072) (hsa : sa + 3200 ≤ 7174250) {x5 : Int32} (hi : ∀ k : Int32, 0 ≤ k → k ≤ 4 → vp_in (x5 + k) L) (hj : j < 512) {Rl : Nat → Mem → Mem → Mem → Prop} (hS : SC_speeches n Rl)
    {r : Nat → Nat} {T M Mm : Mem} {o : Nat → Int64} {d : Nat → UInt64} {J : va_W} (hRl : Rl j T M Mm) {H : Heap} {locs : List Loc} {ls : Array Slot} (hl : lv_has ls 9 [(5, .int x5), (0, .ref bs), (1, .ref (b 0)), (2, .ref (bm 0)), (3, .ref q1), (4, .ref q2)]) (hI : KI g (AL s) s (LWc g r b bm q1 q2 T M Mm o d J) H locs)
    (kk : ∀ (r : Nat → Nat) (T M Mm : Mem) (o : Nat → Int64) (d : Nat → UInt64) (J : va_W) (H : Heap) (locs : List Loc) (ls : Array Slot), Rl (j + 1) T M Mm → lv_has ls 9 [(5, .int x5), (0, .ref bs), (1, .ref (b 0)), (2, .ref (bm 0)), (3, .ref q1), (4, .ref q2)] → KI g (AL s) s (LWc g r b bm q1 q2 T M Mm o d J) H locs → W p l e room_1 s m args below meth c H locs (ca + 40) (sa + 3200) Q (F0 m 2968 ls [])) :
    W p l e room_1 s m args below meth c H locs ca sa Q (F0 m 1431 ls []) := by
  refine lv_aload_n C0.1 C0.2.1 dL_law_1431 rfl (lv_at hl 2 rfl) ?_
  refine lv_aload_n C0.1 C0.2.1 dL_law_1432 rfl (lv_at hl 1 rfl) ?_
  refine lv_iload C0.1 C0.2.1 dL_law_1433 (lv_at hl 0 rfl) ?_
  refine lv_iconst (v := 1) C0.1 C0.2.1 dL_law_1435 (by decide) ?_
  refine lv_iadd C0.1 C0.2.1 dL_law_1436 ?_
  refine l_xs C0 hX hI (hi 1 (by decide) (by decide)) dL_law_1437 ?_
  refine lv_aload_n C0.1 C0.2.1 dL_law_1438 rfl (lv_at hl 4 rfl) ?_
  obtain ⟨q0, v, Mm1, h1, h2, h3, h5, h6, hRl1⟩ := hS j T M Mm (xs (ix (x5 + 1))) hj hRl
  refine lc_h (As := [.ref (b 0), .int (xs (ix (x5 + 1))), .ref q1]) C0 hC hI (h_speeches l hl0 g (J ++ pw 10 (shM g bm) bm Mm) r b H.size n T M q1 q2 o d (xs (ix (x5 + 1))) h1 h3) w_1043 w_1044 w_118 w_1045 ⟨rfl, rfl⟩ hd_L_speeches ⟨Nat.le_of_ble_eq_true rfl, Nat.le_of_ble_eq_true rfl⟩ rfl hl.1 rfl (Nat.le_of_ble_eq_true rfl) dL_law_1439 ⟨by show _ ≤ 603072; omega, by show _ ≤ 7174250; omega⟩ (fun H locs hI => ?_)
  refine lv_istore (lv' := [(6, .int (cx [2] q0)), (5, .int x5), (0, .ref bs), (1, .ref (b 0)), (2, .ref (bm 0)), (3, .ref q1), (4, .ref q2)]) C0.1 C0.2.1 dL_law_1442 hl (by decide) rfl (fun ls hl => ?_)
  refine lv_aload_n C0.1 C0.2.1 dL_law_1444 rfl (lv_at hl 4 rfl) ?_
  refine lv_aload_n C0.1 C0.2.1 dL_law_1445 rfl (lv_at hl 2 rfl) ?_
  refine lv_iload C0.1 C0.2.1 dL_law_1446 (lv_at hl 1 rfl) ?_
  refine lv_iconst (v := 1) C0.1 C0.2.1 dL_law_1448 (by decide) ?_
  refine lv_iadd C0.1 C0.2.1 dL_law_1449 ?_
  refine l_xs C0 hX hI (hi 1 (by decide) (by decide)) dL_law_1450 ?_
  refine lm_i (As := [.int (xs (ix (x5 + 1)))]) C0 hC hI (c_X10_speeches l g (xb g r T ++ (outs g q1 q2 (ou ciI o q0) d ++ J) ++ pw 372 (shI g r b) b M) bm H.size n Mm (xs (ix (x5 + 1))) h2) w_1969 w_1970 w_1971 w_132 w_1972 ⟨rfl, rfl⟩ hd_X10_speeches ⟨Nat.le_of_ble_eq_true rfl, Nat.le_of_ble_eq_true rfl⟩ rfl rfl hl.1 rfl (Nat.le_of_ble_eq_true rfl) dL_law_1451 ⟨by show _ ≤ 603072; omega, by show _ ≤ 7174250; omega⟩ (fun H locs hI => ?_)
  refine lv_istore (lv' := [(7, .int v), (6, .int (cx [2] q0)), (5, .int x5), (0, .ref bs), (1, .ref (b 0)), (2, .ref (bm 0)), (3, .ref q1), (4, .ref q2)]) C0.1 C0.2.1 dL_law_1454 hl (by decide) rfl (fun ls hl => ?_)
  refine lv_aload_n C0.1 C0.2.1 dL_law_1456 rfl (lv_at hl 5 rfl) ?_
  refine lm_i (As := []) C0 hC hI (c_X10_thrown l g (xb g r T ++ (outs g q1 q2 (ou ciI o q0) d ++ J) ++ pw 372 (shI g r b) b M) bm H.size n Mm1 rfl) w_1752 w_1753 w_1754 w_132 w_1755 ⟨rfl, rfl⟩ hd_X10_thrown ⟨Nat.le_of_ble_eq_true rfl, Nat.le_of_ble_eq_true rfl⟩ rfl rfl hl.1 rfl (Nat.le_of_ble_eq_true rfl) dL_law_1457 ⟨by show _ ≤ 603072; omega, by show _ ≤ 7174250; omega⟩ (fun H locs hI => ?_)
  refine lv_iload C0.1 C0.2.1 dL_law_1460 (lv_at hl 1 rfl) ?_
  refine lv_icmp_eq (tgt := 1467) C0.1 C0.2.1 dL_law_1462 (by decide) (fun _ => ?_) (fun z => absurd h5 z)
  refine lv_iload C0.1 C0.2.1 dL_law_1467 (lv_at hl 1 rfl) ?_
  refine lv_if_ne (tgt := 1484) C0.1 C0.2.1 dL_law_1469 (by decide) (fun cz => ?_) (fun cz => ?_)
  · skip
    refine lv_goto (tgt := 2968) C0.1 C0.2.1 dL_law_1484 (by decide) ?_
    refine W.widen (k := ca + 40) (n := sa + 3200) (by omega) (by omega) ?_
    exact kk r T M Mm1 (ou ciI o q0) d J H locs ls hRl1 (lv_sub hl [2, 3, 4, 5, 6, 7] rfl) hI
  · obtain ⟨w, hw⟩ := cx_0 (by decide) cz
    refine lv_aload_n C0.1 C0.2.1 dL_law_1472 rfl (lv_at hl 6 rfl) ?_
    refine lv_iconst (v := 0) C0.1 C0.2.1 dL_law_1473 (by decide) ?_
    refine lc_lald C0 hC hI dL_law_1474 ?_
    rw [our (f := ciI) hw, updL0]
    refine lv_iload C0.1 C0.2.1 dL_law_1475 (lv_at hl 0 rfl) ?_
    refine lv_i2l C0.1 C0.2.1 dL_law_1477 rfl ?_
    refine W.lcmp C0.1 C0.2.1 dL_law_1478 ?_
    rw [show ciI w = v.toInt64 from by rw [h6 w hw], lg_eq]
    refine lv_if_eq (tgt := 1484) C0.1 C0.2.1 dL_law_1479 (by decide) (fun _ => ?_) (fun z => absurd rfl z)
    refine lv_goto (tgt := 2968) C0.1 C0.2.1 dL_law_1484 (by decide) ?_
    refine W.widen (k := ca + 40) (n := sa + 3200) (by omega) (by omega) ?_
    exact kk r T M Mm1 (ou ciI o q0) d J H locs ls hRl1 (lv_sub hl [2, 3, 4, 5, 6, 7] rfl) hI

def SC_speechesOn (n : Nat) (Rl : Nat → Mem → Mem → Mem → Prop) : Prop := ∀ (j : Nat) (T M Mm : Mem) (x1 : Int32), j < 512 → Rl j T M Mm → ∃ (q0 : RX Int32) (v : Int32) (Mm' : Mem), F_X9_speechesOn n x1 M = some q0 ∧ F_X10_speechesOn n x1 Mm = some (v, Mm') ∧ (∀ k, q0 = .inl k → k = 2) ∧ Mm' 0 0 = cx [2] q0 ∧ (∀ w, q0 = .inr w → w = v) ∧ Rl (j + 1) T M Mm'
set_option maxHeartbeats 4000000 in
theorem law_speechesOn {p : Program} {l : Launch} (hl0 : l.stackTraces = false) {e : Env} {s : State} {m : MethodId} {args : Array Value} {below : List Frame} {meth : Method} {c : Code} {Q : State → Prop} (C0 : CallFix p m c code 9 s args LWg RL) {g : GG} (hC : CC g (AL s) s) {bs L : Nat} {xs : Nat → Int32} (hX : LX bs L xs s) {b bm : Nat → Nat} {q1 q2 n j ca sa : Nat} (hca : ca + 40 ≤ 603072) (hsa : sa + 3200 ≤ 7174250) {x5 : Int32} (hi : ∀ k : Int32, 0 ≤ k → k ≤ 4 → vp_in (x5 + k) L) (hj : j < 512) {Rl : Nat → Mem → Mem → Mem → Prop} (hS : SC_speechesOn n Rl)
    {r : Nat → Nat} {T M Mm : Mem} {o : Nat → Int64} {d : Nat → UInt64} {J : va_W} (hRl : Rl j T M Mm) {H : Heap} {locs : List Loc} {ls : Array Slot} (hl : lv_has ls 9 [(5, .int x5), (0, .ref bs), (1, .ref (b 0)), (2, .ref (bm 0)), (3, .ref q1), (4, .ref q2)]) (hI : KI g (AL s) s (LWc g r b bm q1 q2 T M Mm o d J) H locs)
    (kk : ∀ (r : Nat → Nat) (T M Mm : Mem) (o : Nat → Int64) (d : Nat → UInt64) (J : va_W) (H : Heap) (locs : List Loc) (ls : Array Slot), Rl (j + 1) T M Mm → lv_has ls 9 [(5, .int x5), (0, .ref bs), (1, .ref (b 0)), (2, .ref (bm 0)), (3, .ref q1), (4, .ref q2)] → KI g (AL s) s (LWc g r b bm q1 q2 T M Mm o d J) H locs → W p l e room_1 s m args below meth c H locs (ca + 40) (sa + 3200) Q (F0 m 2968 ls [])) :
    W p l e room_1 s m args below meth c H locs ca sa Q (F0 m 1487 ls []) := by
  refine lv_aload_n C0.1 C0.2.1 dL_law_1487 rfl (lv_at hl 2 rfl) ?_
  refine lv_aload_n C0.1 C0.2.1 dL_law_1488 rfl (lv_at hl 1 rfl) ?_
  refine lv_iload C0.1 C0.2.1 dL_law_1489 (lv_at hl 0 rfl) ?_
  refine lv_iconst (v := 1) C0.1 C0.2.1 dL_law_1491 (by decide) ?_
  refine lv_iadd C0.1 C0.2.1 dL_law_1492 ?_
  refine l_xs C0 hX hI (hi 1 (by decide) (by decide)) dL_law_1493 ?_
  refine lv_aload_n C0.1 C0.2.1 dL_law_1494 rfl (lv_at hl 4 rfl) ?_
  obtain ⟨q0, v, Mm1, h1, h2, h3, h5, h6, hRl1⟩ := hS j T M Mm (xs (ix (x5 + 1))) hj hRl
  refine lc_h (As := [.ref (b 0), .int (xs (ix (x5 + 1))), .ref q1]) C0 hC hI (h_speechesOn l hl0 g (J ++ pw 10 (shM g bm) bm Mm) r b H.size n T M q1 q2 o d (xs (ix (x5 + 1))) h1 h3) w_1050 w_1051 w_118 w_1052 ⟨rfl, rfl⟩ hd_L_speechesOn ⟨Nat.le_of_ble_eq_true rfl, Nat.le_of_ble_eq_true rfl⟩ rfl hl.1 rfl (Nat.le_of_ble_eq_true rfl) dL_law_1495 ⟨by show _ ≤ 603072; omega, by show _ ≤ 7174250; omega⟩ (fun H locs hI => ?_)
  refine lv_istore (lv' := [(6, .int (cx [2] q0)), (5, .int x5), (0, .ref bs), (1, .ref (b 0)), (2, .ref (bm 0)), (3, .ref q1), (4, .ref q2)]) C0.1 C0.2.1 dL_law_1498 hl (by decide) rfl (fun ls hl => ?_)
  refine lv_aload_n C0.1 C0.2.1 dL_law_1500 rfl (lv_at hl 4 rfl) ?_
  refine lv_aload_n C0.1 C0.2.1 dL_law_1501 rfl (lv_at hl 2 rfl) ?_
  refine lv_iload C0.1 C0.2.1 dL_law_1502 (lv_at hl 1 rfl) ?_
  refine lv_iconst (v := 1) C0.1 C0.2.1 dL_law_1504 (by decide) ?_
  refine lv_iadd C0.1 C0.2.1 dL_law_1505 ?_
  refine l_xs C0 hX hI (hi 1 (by decide) (by decide)) dL_law_1506 ?_
  refine lm_i (As := [.int (xs (ix (x5 + 1)))]) C0 hC hI (c_X10_speechesOn l g (xb g r T ++ (outs g q1 q2 (ou ciI o q0) d ++ J) ++ pw 372 (shI g r b) b M) bm H.size n Mm (xs (ix (x5 + 1))) h2) w_1973 w_1974 w_1975 w_132 w_1976 ⟨rfl, rfl⟩ hd_X10_speechesOn ⟨Nat.le_of_ble_eq_true rfl, Nat.le_of_ble_eq_true rfl⟩ rfl rfl hl.1 rfl (Nat.le_of_ble_eq_true rfl) dL_law_1507 ⟨by show _ ≤ 603072; omega, by show _ ≤ 7174250; omega⟩ (fun H locs hI => ?_)
  refine lv_istore (lv' := [(7, .int v), (6, .int (cx [2] q0)), (5, .int x5), (0, .ref bs), (1, .ref (b 0)), (2, .ref (bm 0)), (3, .ref q1), (4, .ref q2)]) C0.1 C0.2.1 dL_law_1510 hl (by decide) rfl (fun ls hl => ?_)
  refine lv_aload_n C0.1 C0.2.1 dL_law_1512 rfl (lv_at hl 5 rfl) ?_
  refine lm_i (As := []) C0 hC hI (c_X10_thrown l g (xb g r T ++ (outs g q1 q2 (ou ciI o q0) d ++ J) ++ pw 372 (shI g r b) b M) bm H.size n Mm1 rfl) w_1752 w_1753 w_1754 w_132 w_1755 ⟨rfl, rfl⟩ hd_X10_thrown ⟨Nat.le_of_ble_eq_true rfl, Nat.le_of_ble_eq_true rfl⟩ rfl rfl hl.1 rfl (Nat.le_of_ble_eq_true rfl) dL_law_1513 ⟨by show _ ≤ 603072; omega, by show _ ≤ 7174250; omega⟩ (fun H locs hI => ?_)
  refine lv_iload C0.1 C0.2.1 dL_law_1516 (lv_at hl 1 rfl) ?_
  refine lv_icmp_eq (tgt := 1523) C0.1 C0.2.1 dL_law_1518 (by decide) (fun _ => ?_) (fun z => absurd h5 z)
  refine lv_iload C0.1 C0.2.1 dL_law_1523 (lv_at hl 1 rfl) ?_
  refine lv_if_ne (tgt := 1540) C0.1 C0.2.1 dL_law_1525 (by decide) (fun cz => ?_) (fun cz => ?_)
  · skip
    refine lv_goto (tgt := 2968) C0.1 C0.2.1 dL_law_1540 (by decide) ?_
    refine W.widen (k := ca + 40) (n := sa + 3200) (by omega) (by omega) ?_
    exact kk r T M Mm1 (ou ciI o q0) d J H locs ls hRl1 (lv_sub hl [2, 3, 4, 5, 6, 7] rfl) hI
  · obtain ⟨w, hw⟩ := cx_0 (by decide) cz
    refine lv_aload_n C0.1 C0.2.1 dL_law_1528 rfl (lv_at hl 6 rfl) ?_
    refine lv_iconst (v := 0) C0.1 C0.2.1 dL_law_1529 (by decide) ?_
    refine lc_lald C0 hC hI dL_law_1530 ?_
    rw [our (f := ciI) hw, updL0]
    refine lv_iload C0.1 C0.2.1 dL_law_1531 (lv_at hl 0 rfl) ?_
    refine lv_i2l C0.1 C0.2.1 dL_law_1533 rfl ?_
    refine W.lcmp C0.1 C0.2.1 dL_law_1534 ?_
    rw [show ciI w = v.toInt64 from by rw [h6 w hw], lg_eq]
    refine lv_if_eq (tgt := 1540) C0.1 C0.2.1 dL_law_1535 (by decide) (fun _ => ?_) (fun z => absurd rfl z)
    refine lv_goto (tgt := 2968) C0.1 C0.2.1 dL_law_1540 (by decide) ?_
    refine W.widen (k := ca + 40) (n := sa + 3200) (by omega) (by omega) ?_
    exact kk r T M Mm1 (ou ciI o q0) d J H locs ls hRl1 (lv_sub hl [2, 3, 4, 5, 6, 7] rfl) hI

def SC_frogAtRank (n : Nat) (Rl : Nat → Mem → Mem → Mem → Prop) : Prop := ∀ (j : Nat) (T M Mm : Mem) (x1 : Int32), j < 512 → Rl j T M Mm → ∃ (q0 : RX Int32) (v : Int32) (Mm' : Mem), F_X9_frogAtRank n x1 M = some q0 ∧ F_X10_frogAtRank n x1 Mm = some (v, Mm') ∧ (∀ k, q0 = .inl k → k = 5) ∧ Mm' 0 0 = cx [5] q0 ∧ (∀ w, q0 = .inr w → w = v) ∧ Rl (j + 1) T M Mm'
set_option maxHeartbeats 4000000 in
theorem law_frogAtRank {p : Program} {l : Launch} (hl0 : l.stackTraces = false) {e : Env} {s : State} {m : MethodId} {args : Array Value} {below : List Frame} {meth : Method} {c : Code} {Q : State → Prop} (C0 : CallFix p m c code 9 s args LWg RL) {g : GG} (hC : CC g (AL s) s) {bs L : Nat} {xs : Nat → Int32} (hX : LX bs L xs s) {b bm : Nat → Nat} {q1 q2 n j ca sa : Nat} (hca : ca + 40 ≤ 603072) (hsa : sa + 3200 ≤ 7174250) {x5 : Int32} (hi : ∀ k : Int32, 0 ≤ k → k ≤ 4 → vp_in (x5 + k) L) (hj : j < 512) {Rl : Nat → Mem → Mem → Mem → Prop} (hS : SC_frogAtRank n Rl)
    {r : Nat → Nat} {T M Mm : Mem} {o : Nat → Int64} {d : Nat → UInt64} {J : va_W} (hRl : Rl j T M Mm) {H : Heap} {locs : List Loc} {ls : Array Slot} (hl : lv_has ls 9 [(5, .int x5), (0, .ref bs), (1, .ref (b 0)), (2, .ref (bm 0)), (3, .ref q1), (4, .ref q2)]) (hI : KI g (AL s) s (LWc g r b bm q1 q2 T M Mm o d J) H locs)
    (kk : ∀ (r : Nat → Nat) (T M Mm : Mem) (o : Nat → Int64) (d : Nat → UInt64) (J : va_W) (H : Heap) (locs : List Loc) (ls : Array Slot), Rl (j + 1) T M Mm → lv_has ls 9 [(5, .int x5), (0, .ref bs), (1, .ref (b 0)), (2, .ref (bm 0)), (3, .ref q1), (4, .ref q2)] → KI g (AL s) s (LWc g r b bm q1 q2 T M Mm o d J) H locs → W p l e room_1 s m args below meth c H locs (ca + 40) (sa + 3200) Q (F0 m 2968 ls [])) :
    W p l e room_1 s m args below meth c H locs ca sa Q (F0 m 1543 ls []) := by
  refine lv_aload_n C0.1 C0.2.1 dL_law_1543 rfl (lv_at hl 2 rfl) ?_
  refine lv_aload_n C0.1 C0.2.1 dL_law_1544 rfl (lv_at hl 1 rfl) ?_
  refine lv_iload C0.1 C0.2.1 dL_law_1545 (lv_at hl 0 rfl) ?_
  refine lv_iconst (v := 1) C0.1 C0.2.1 dL_law_1547 (by decide) ?_
  refine lv_iadd C0.1 C0.2.1 dL_law_1548 ?_
  refine l_xs C0 hX hI (hi 1 (by decide) (by decide)) dL_law_1549 ?_
  refine lv_aload_n C0.1 C0.2.1 dL_law_1550 rfl (lv_at hl 4 rfl) ?_
  obtain ⟨q0, v, Mm1, h1, h2, h3, h5, h6, hRl1⟩ := hS j T M Mm (xs (ix (x5 + 1))) hj hRl
  refine lc_h (As := [.ref (b 0), .int (xs (ix (x5 + 1))), .ref q1]) C0 hC hI (h_frogAtRank l hl0 g (J ++ pw 10 (shM g bm) bm Mm) r b H.size n T M q1 q2 o d (xs (ix (x5 + 1))) h1 h3) w_1054 w_1055 w_118 w_1056 ⟨rfl, rfl⟩ hd_L_frogAtRank ⟨Nat.le_of_ble_eq_true rfl, Nat.le_of_ble_eq_true rfl⟩ rfl hl.1 rfl (Nat.le_of_ble_eq_true rfl) dL_law_1551 ⟨by show _ ≤ 603072; omega, by show _ ≤ 7174250; omega⟩ (fun H locs hI => ?_)
  refine lv_istore (lv' := [(6, .int (cx [5] q0)), (5, .int x5), (0, .ref bs), (1, .ref (b 0)), (2, .ref (bm 0)), (3, .ref q1), (4, .ref q2)]) C0.1 C0.2.1 dL_law_1554 hl (by decide) rfl (fun ls hl => ?_)
  refine lv_aload_n C0.1 C0.2.1 dL_law_1556 rfl (lv_at hl 4 rfl) ?_
  refine lv_aload_n C0.1 C0.2.1 dL_law_1557 rfl (lv_at hl 2 rfl) ?_
  refine lv_iload C0.1 C0.2.1 dL_law_1558 (lv_at hl 1 rfl) ?_
  refine lv_iconst (v := 1) C0.1 C0.2.1 dL_law_1560 (by decide) ?_
  refine lv_iadd C0.1 C0.2.1 dL_law_1561 ?_
  refine l_xs C0 hX hI (hi 1 (by decide) (by decide)) dL_law_1562 ?_
  refine lm_i (As := [.int (xs (ix (x5 + 1)))]) C0 hC hI (c_X10_frogAtRank l g (xb g r T ++ (outs g q1 q2 (ou ciI o q0) d ++ J) ++ pw 372 (shI g r b) b M) bm H.size n Mm (xs (ix (x5 + 1))) h2) w_1977 w_1978 w_1979 w_132 w_1980 ⟨rfl, rfl⟩ hd_X10_frogAtRank ⟨Nat.le_of_ble_eq_true rfl, Nat.le_of_ble_eq_true rfl⟩ rfl rfl hl.1 rfl (Nat.le_of_ble_eq_true rfl) dL_law_1563 ⟨by show _ ≤ 603072; omega, by show _ ≤ 7174250; omega⟩ (fun H locs hI => ?_)
  refine lv_istore (lv' := [(7, .int v), (6, .int (cx [5] q0)), (5, .int x5), (0, .ref bs), (1, .ref (b 0)), (2, .ref (bm 0)), (3, .ref q1), (4, .ref q2)]) C0.1 C0.2.1 dL_law_1566 hl (by decide) rfl (fun ls hl => ?_)
  refine lv_aload_n C0.1 C0.2.1 dL_law_1568 rfl (lv_at hl 5 rfl) ?_
  refine lm_i (As := []) C0 hC hI (c_X10_thrown l g (xb g r T ++ (outs g q1 q2 (ou ciI o q0) d ++ J) ++ pw 372 (shI g r b) b M) bm H.size n Mm1 rfl) w_1752 w_1753 w_1754 w_132 w_1755 ⟨rfl, rfl⟩ hd_X10_thrown ⟨Nat.le_of_ble_eq_true rfl, Nat.le_of_ble_eq_true rfl⟩ rfl rfl hl.1 rfl (Nat.le_of_ble_eq_true rfl) dL_law_1569 ⟨by show _ ≤ 603072; omega, by show _ ≤ 7174250; omega⟩ (fun H locs hI => ?_)
  refine lv_iload C0.1 C0.2.1 dL_law_1572 (lv_at hl 1 rfl) ?_
  refine lv_icmp_eq (tgt := 1579) C0.1 C0.2.1 dL_law_1574 (by decide) (fun _ => ?_) (fun z => absurd h5 z)
  refine lv_iload C0.1 C0.2.1 dL_law_1579 (lv_at hl 1 rfl) ?_
  refine lv_if_ne (tgt := 1596) C0.1 C0.2.1 dL_law_1581 (by decide) (fun cz => ?_) (fun cz => ?_)
  · skip
    refine lv_goto (tgt := 2968) C0.1 C0.2.1 dL_law_1596 (by decide) ?_
    refine W.widen (k := ca + 40) (n := sa + 3200) (by omega) (by omega) ?_
    exact kk r T M Mm1 (ou ciI o q0) d J H locs ls hRl1 (lv_sub hl [2, 3, 4, 5, 6, 7] rfl) hI
  · obtain ⟨w, hw⟩ := cx_0 (by decide) cz
    refine lv_aload_n C0.1 C0.2.1 dL_law_1584 rfl (lv_at hl 6 rfl) ?_
    refine lv_iconst (v := 0) C0.1 C0.2.1 dL_law_1585 (by decide) ?_
    refine lc_lald C0 hC hI dL_law_1586 ?_
    rw [our (f := ciI) hw, updL0]
    refine lv_iload C0.1 C0.2.1 dL_law_1587 (lv_at hl 0 rfl) ?_
    refine lv_i2l C0.1 C0.2.1 dL_law_1589 rfl ?_
    refine W.lcmp C0.1 C0.2.1 dL_law_1590 ?_
    rw [show ciI w = v.toInt64 from by rw [h6 w hw], lg_eq]
    refine lv_if_eq (tgt := 1596) C0.1 C0.2.1 dL_law_1591 (by decide) (fun _ => ?_) (fun z => absurd rfl z)
    refine lv_goto (tgt := 2968) C0.1 C0.2.1 dL_law_1596 (by decide) ?_
    refine W.widen (k := ca + 40) (n := sa + 3200) (by omega) (by omega) ?_
    exact kk r T M Mm1 (ou ciI o q0) d J H locs ls hRl1 (lv_sub hl [2, 3, 4, 5, 6, 7] rfl) hI

def SC_supportClosure (n : Nat) (Rl : Nat → Mem → Mem → Mem → Prop) : Prop := ∀ (j : Nat) (T M Mm : Mem) (x1 : Int32) (x2 : Int32), j < 512 → Rl j T M Mm → ∃ (q0 : RX Int32) (M' : Mem) (v : Int32) (Mm' : Mem), F_X9_supportClosure n x1 x2 M = some (q0, M') ∧ F_X10_supportClosure n x1 x2 Mm = some (v, Mm') ∧ (∀ k, q0 = .inl k → k = 2 ∨ k = 1 ∨ k = 0 ∨ k = 4) ∧ Mm' 0 0 = cx [2, 1, 0, 4] q0 ∧ (∀ w, q0 = .inr w → w = v) ∧ Rl (j + 1) T M' Mm'
set_option maxHeartbeats 4000000 in
theorem law_supportClosure {p : Program} {l : Launch} (hl0 : l.stackTraces = false) {e : Env} {s : State} {m : MethodId} {args : Array Value} {below : List Frame} {meth : Method} {c : Code} {Q : State → Prop} (C0 : CallFix p m c code 9 s args LWg RL) {g : GG} (hC : CC g (AL s) s) {bs L : Nat} {xs : Nat → Int32} (hX : LX bs L xs s) {b bm : Nat → Nat} {q1 q2 n j ca sa : Nat} (hca : ca + 40 ≤ 603072) (hsa : sa + 3200 ≤ 7174250) {x5 : Int32} (hi : ∀ k : Int32, 0 ≤ k → k ≤ 4 → vp_in (x5 + k) L) (hj : j < 512) {Rl : Nat → Mem → Mem → Mem → Prop} (hS : SC_supportClosure n Rl)
    {r : Nat → Nat} {T M Mm : Mem} {o : Nat → Int64} {d : Nat → UInt64} {J : va_W} (hRl : Rl j T M Mm) {H : Heap} {locs : List Loc} {ls : Array Slot} (hl : lv_has ls 9 [(5, .int x5), (0, .ref bs), (1, .ref (b 0)), (2, .ref (bm 0)), (3, .ref q1), (4, .ref q2)]) (hI : KI g (AL s) s (LWc g r b bm q1 q2 T M Mm o d J) H locs)
    (kk : ∀ (r : Nat → Nat) (T M Mm : Mem) (o : Nat → Int64) (d : Nat → UInt64) (J : va_W) (H : Heap) (locs : List Loc) (ls : Array Slot), Rl (j + 1) T M Mm → lv_has ls 9 [(5, .int x5), (0, .ref bs), (1, .ref (b 0)), (2, .ref (bm 0)), (3, .ref q1), (4, .ref q2)] → KI g (AL s) s (LWc g r b bm q1 q2 T M Mm o d J) H locs → W p l e room_1 s m args below meth c H locs (ca + 40) (sa + 3200) Q (F0 m 2968 ls [])) :
    W p l e room_1 s m args below meth c H locs ca sa Q (F0 m 1599 ls []) := by
  refine lv_aload_n C0.1 C0.2.1 dL_law_1599 rfl (lv_at hl 2 rfl) ?_
  refine lv_aload_n C0.1 C0.2.1 dL_law_1600 rfl (lv_at hl 1 rfl) ?_
  refine lv_iload C0.1 C0.2.1 dL_law_1601 (lv_at hl 0 rfl) ?_
  refine lv_iconst (v := 1) C0.1 C0.2.1 dL_law_1603 (by decide) ?_
  refine lv_iadd C0.1 C0.2.1 dL_law_1604 ?_
  refine l_xs C0 hX hI (hi 1 (by decide) (by decide)) dL_law_1605 ?_
  refine lv_aload_n C0.1 C0.2.1 dL_law_1606 rfl (lv_at hl 1 rfl) ?_
  refine lv_iload C0.1 C0.2.1 dL_law_1607 (lv_at hl 0 rfl) ?_
  refine lv_iconst (v := 2) C0.1 C0.2.1 dL_law_1609 (by decide) ?_
  refine lv_iadd C0.1 C0.2.1 dL_law_1610 ?_
  refine l_xs C0 hX hI (hi 2 (by decide) (by decide)) dL_law_1611 ?_
  refine lv_aload_n C0.1 C0.2.1 dL_law_1612 rfl (lv_at hl 4 rfl) ?_
  obtain ⟨q0, M1, v, Mm1, h1, h2, h3, h5, h6, hRl1⟩ := hS j T M Mm (xs (ix (x5 + 1))) (xs (ix (x5 + 2))) hj hRl
  refine lc_h (As := [.ref (b 0), .int (xs (ix (x5 + 1))), .int (xs (ix (x5 + 2))), .ref q1]) C0 hC hI (h_supportClosure l hl0 g (J ++ pw 10 (shM g bm) bm Mm) r b H.size n T M q1 q2 o d (xs (ix (x5 + 1))) (xs (ix (x5 + 2))) h1 h3) w_1070 w_1071 w_118 w_1072 ⟨rfl, rfl⟩ hd_L_supportClosure ⟨Nat.le_of_ble_eq_true rfl, Nat.le_of_ble_eq_true rfl⟩ rfl hl.1 rfl (Nat.le_of_ble_eq_true rfl) dL_law_1613 ⟨by show _ ≤ 603072; omega, by show _ ≤ 7174250; omega⟩ (fun H locs hI => ?_)
  refine lv_istore (lv' := [(6, .int (cx [2, 1, 0, 4] q0)), (5, .int x5), (0, .ref bs), (1, .ref (b 0)), (2, .ref (bm 0)), (3, .ref q1), (4, .ref q2)]) C0.1 C0.2.1 dL_law_1616 hl (by decide) rfl (fun ls hl => ?_)
  refine lv_aload_n C0.1 C0.2.1 dL_law_1618 rfl (lv_at hl 4 rfl) ?_
  refine lv_aload_n C0.1 C0.2.1 dL_law_1619 rfl (lv_at hl 2 rfl) ?_
  refine lv_iload C0.1 C0.2.1 dL_law_1620 (lv_at hl 1 rfl) ?_
  refine lv_iconst (v := 1) C0.1 C0.2.1 dL_law_1622 (by decide) ?_
  refine lv_iadd C0.1 C0.2.1 dL_law_1623 ?_
  refine l_xs C0 hX hI (hi 1 (by decide) (by decide)) dL_law_1624 ?_
  refine lv_aload_n C0.1 C0.2.1 dL_law_1625 rfl (lv_at hl 2 rfl) ?_
  refine lv_iload C0.1 C0.2.1 dL_law_1626 (lv_at hl 1 rfl) ?_
  refine lv_iconst (v := 2) C0.1 C0.2.1 dL_law_1628 (by decide) ?_
  refine lv_iadd C0.1 C0.2.1 dL_law_1629 ?_
  refine l_xs C0 hX hI (hi 2 (by decide) (by decide)) dL_law_1630 ?_
  refine lm_i (As := [.int (xs (ix (x5 + 1))), .int (xs (ix (x5 + 2)))]) C0 hC hI (c_X10_supportClosure l g (xb g r T ++ (outs g q1 q2 (ou ciZ o q0) d ++ J) ++ pw 372 (shI g r b) b M1) bm H.size n Mm (xs (ix (x5 + 1))) (xs (ix (x5 + 2))) h2) w_1981 w_1982 w_1983 w_132 w_1984 ⟨rfl, rfl⟩ hd_X10_supportClosure ⟨Nat.le_of_ble_eq_true rfl, Nat.le_of_ble_eq_true rfl⟩ rfl rfl hl.1 rfl (Nat.le_of_ble_eq_true rfl) dL_law_1631 ⟨by show _ ≤ 603072; omega, by show _ ≤ 7174250; omega⟩ (fun H locs hI => ?_)
  refine lv_istore (lv' := [(7, .int v), (6, .int (cx [2, 1, 0, 4] q0)), (5, .int x5), (0, .ref bs), (1, .ref (b 0)), (2, .ref (bm 0)), (3, .ref q1), (4, .ref q2)]) C0.1 C0.2.1 dL_law_1634 hl (by decide) rfl (fun ls hl => ?_)
  refine lv_aload_n C0.1 C0.2.1 dL_law_1636 rfl (lv_at hl 5 rfl) ?_
  refine lm_i (As := []) C0 hC hI (c_X10_thrown l g (xb g r T ++ (outs g q1 q2 (ou ciZ o q0) d ++ J) ++ pw 372 (shI g r b) b M1) bm H.size n Mm1 rfl) w_1752 w_1753 w_1754 w_132 w_1755 ⟨rfl, rfl⟩ hd_X10_thrown ⟨Nat.le_of_ble_eq_true rfl, Nat.le_of_ble_eq_true rfl⟩ rfl rfl hl.1 rfl (Nat.le_of_ble_eq_true rfl) dL_law_1637 ⟨by show _ ≤ 603072; omega, by show _ ≤ 7174250; omega⟩ (fun H locs hI => ?_)
  refine lv_iload C0.1 C0.2.1 dL_law_1640 (lv_at hl 1 rfl) ?_
  refine lv_icmp_eq (tgt := 1647) C0.1 C0.2.1 dL_law_1642 (by decide) (fun _ => ?_) (fun z => absurd h5 z)
  refine lv_iload C0.1 C0.2.1 dL_law_1647 (lv_at hl 1 rfl) ?_
  refine lv_if_ne (tgt := 1671) C0.1 C0.2.1 dL_law_1649 (by decide) (fun cz => ?_) (fun cz => ?_)
  · skip
    refine lv_goto (tgt := 2968) C0.1 C0.2.1 dL_law_1671 (by decide) ?_
    refine W.widen (k := ca + 40) (n := sa + 3200) (by omega) (by omega) ?_
    exact kk r T M1 Mm1 (ou ciZ o q0) d J H locs ls hRl1 (lv_sub hl [2, 3, 4, 5, 6, 7] rfl) hI
  · obtain ⟨w, hw⟩ := cx_0 (by decide) cz
    refine lv_aload_n C0.1 C0.2.1 dL_law_1652 rfl (lv_at hl 6 rfl) ?_
    refine lv_iconst (v := 0) C0.1 C0.2.1 dL_law_1653 (by decide) ?_
    refine lc_lald C0 hC hI dL_law_1654 ?_
    rw [our (f := ciZ) hw, updL0]
    refine lv_iload C0.1 C0.2.1 dL_law_1655 (lv_at hl 0 rfl) ?_
    refine lv_if_eq (tgt := 1664) C0.1 C0.2.1 dL_law_1657 (by decide) (fun cz_1 => ?_) (fun cz_1 => ?_)
    · skip
      have hz0 : ciZ w = 0 := by rw [h6 w hw]; exact if_pos cz_1
      refine lv_lconst (v := 0) C0.1 C0.2.1 dL_law_1664 (by decide) ?_
      refine W.lcmp C0.1 C0.2.1 dL_law_1665 ?_
      rw [hz0, lg_eq]
      refine lv_if_eq (tgt := 1671) C0.1 C0.2.1 dL_law_1666 (by decide) (fun _ => ?_) (fun z => absurd rfl z)
      refine lv_goto (tgt := 2968) C0.1 C0.2.1 dL_law_1671 (by decide) ?_
      refine W.widen (k := ca + 40) (n := sa + 3200) (by omega) (by omega) ?_
      exact kk r T M1 Mm1 (ou ciZ o q0) d J H locs ls hRl1 (lv_sub hl [2, 3, 4, 5, 6, 7] rfl) hI
    · skip
      have hz0 : ciZ w = 1 := by rw [h6 w hw]; exact if_neg cz_1
      refine lv_lconst (v := 1) C0.1 C0.2.1 dL_law_1660 (by decide) ?_
      refine lv_goto (tgt := 1665) C0.1 C0.2.1 dL_law_1661 (by decide) ?_
      refine W.lcmp C0.1 C0.2.1 dL_law_1665 ?_
      rw [hz0, lg_eq]
      refine lv_if_eq (tgt := 1671) C0.1 C0.2.1 dL_law_1666 (by decide) (fun _ => ?_) (fun z => absurd rfl z)
      refine lv_goto (tgt := 2968) C0.1 C0.2.1 dL_law_1671 (by decide) ?_
      refine W.widen (k := ca + 40) (n := sa + 3200) (by omega) (by omega) ?_
      exact kk r T M1 Mm1 (ou ciZ o q0) d J H locs ls hRl1 (lv_sub hl [2, 3, 4, 5, 6, 7] rfl) hI

def SC_isListClosed (n : Nat) (Rl : Nat → Mem → Mem → Mem → Prop) : Prop := ∀ (j : Nat) (T M Mm : Mem) (x1 : Int32), j < 512 → Rl j T M Mm → ∃ (q0 : RX Int32) (v : Int32) (Mm' : Mem), F_X9_isListClosed n x1 M = some q0 ∧ F_X10_isListClosed n x1 Mm = some (v, Mm') ∧ (∀ k, q0 = .inl k → k = 2) ∧ Mm' 0 0 = cx [2] q0 ∧ (∀ w, q0 = .inr w → w = v) ∧ Rl (j + 1) T M Mm'
set_option maxHeartbeats 4000000 in
theorem law_isListClosed {p : Program} {l : Launch} (hl0 : l.stackTraces = false) {e : Env} {s : State} {m : MethodId} {args : Array Value} {below : List Frame} {meth : Method} {c : Code} {Q : State → Prop} (C0 : CallFix p m c code 9 s args LWg RL) {g : GG} (hC : CC g (AL s) s) {bs L : Nat} {xs : Nat → Int32} (hX : LX bs L xs s) {b bm : Nat → Nat} {q1 q2 n j ca sa : Nat} (hca : ca + 40 ≤ 603072) (hsa : sa + 3200 ≤ 7174250) {x5 : Int32} (hi : ∀ k : Int32, 0 ≤ k → k ≤ 4 → vp_in (x5 + k) L) (hj : j < 512) {Rl : Nat → Mem → Mem → Mem → Prop} (hS : SC_isListClosed n Rl)
    {r : Nat → Nat} {T M Mm : Mem} {o : Nat → Int64} {d : Nat → UInt64} {J : va_W} (hRl : Rl j T M Mm) {H : Heap} {locs : List Loc} {ls : Array Slot} (hl : lv_has ls 9 [(5, .int x5), (0, .ref bs), (1, .ref (b 0)), (2, .ref (bm 0)), (3, .ref q1), (4, .ref q2)]) (hI : KI g (AL s) s (LWc g r b bm q1 q2 T M Mm o d J) H locs)
    (kk : ∀ (r : Nat → Nat) (T M Mm : Mem) (o : Nat → Int64) (d : Nat → UInt64) (J : va_W) (H : Heap) (locs : List Loc) (ls : Array Slot), Rl (j + 1) T M Mm → lv_has ls 9 [(5, .int x5), (0, .ref bs), (1, .ref (b 0)), (2, .ref (bm 0)), (3, .ref q1), (4, .ref q2)] → KI g (AL s) s (LWc g r b bm q1 q2 T M Mm o d J) H locs → W p l e room_1 s m args below meth c H locs (ca + 40) (sa + 3200) Q (F0 m 2968 ls [])) :
    W p l e room_1 s m args below meth c H locs ca sa Q (F0 m 1674 ls []) := by
  refine lv_aload_n C0.1 C0.2.1 dL_law_1674 rfl (lv_at hl 2 rfl) ?_
  refine lv_aload_n C0.1 C0.2.1 dL_law_1675 rfl (lv_at hl 1 rfl) ?_
  refine lv_iload C0.1 C0.2.1 dL_law_1676 (lv_at hl 0 rfl) ?_
  refine lv_iconst (v := 1) C0.1 C0.2.1 dL_law_1678 (by decide) ?_
  refine lv_iadd C0.1 C0.2.1 dL_law_1679 ?_
  refine l_xs C0 hX hI (hi 1 (by decide) (by decide)) dL_law_1680 ?_
  refine lv_aload_n C0.1 C0.2.1 dL_law_1681 rfl (lv_at hl 4 rfl) ?_
  obtain ⟨q0, v, Mm1, h1, h2, h3, h5, h6, hRl1⟩ := hS j T M Mm (xs (ix (x5 + 1))) hj hRl
  refine lc_h (As := [.ref (b 0), .int (xs (ix (x5 + 1))), .ref q1]) C0 hC hI (h_isListClosed l hl0 g (J ++ pw 10 (shM g bm) bm Mm) r b H.size n T M q1 q2 o d (xs (ix (x5 + 1))) h1 h3) w_1092 w_1093 w_118 w_1094 ⟨rfl, rfl⟩ hd_L_isListClosed ⟨Nat.le_of_ble_eq_true rfl, Nat.le_of_ble_eq_true rfl⟩ rfl hl.1 rfl (Nat.le_of_ble_eq_true rfl) dL_law_1682 ⟨by show _ ≤ 603072; omega, by show _ ≤ 7174250; omega⟩ (fun H locs hI => ?_)
  refine lv_istore (lv' := [(6, .int (cx [2] q0)), (5, .int x5), (0, .ref bs), (1, .ref (b 0)), (2, .ref (bm 0)), (3, .ref q1), (4, .ref q2)]) C0.1 C0.2.1 dL_law_1685 hl (by decide) rfl (fun ls hl => ?_)
  refine lv_aload_n C0.1 C0.2.1 dL_law_1687 rfl (lv_at hl 4 rfl) ?_
  refine lv_aload_n C0.1 C0.2.1 dL_law_1688 rfl (lv_at hl 2 rfl) ?_
  refine lv_iload C0.1 C0.2.1 dL_law_1689 (lv_at hl 1 rfl) ?_
  refine lv_iconst (v := 1) C0.1 C0.2.1 dL_law_1691 (by decide) ?_
  refine lv_iadd C0.1 C0.2.1 dL_law_1692 ?_
  refine l_xs C0 hX hI (hi 1 (by decide) (by decide)) dL_law_1693 ?_
  refine lm_i (As := [.int (xs (ix (x5 + 1)))]) C0 hC hI (c_X10_isListClosed l g (xb g r T ++ (outs g q1 q2 (ou ciZ o q0) d ++ J) ++ pw 372 (shI g r b) b M) bm H.size n Mm (xs (ix (x5 + 1))) h2) w_1997 w_1998 w_1999 w_132 w_2000 ⟨rfl, rfl⟩ hd_X10_isListClosed ⟨Nat.le_of_ble_eq_true rfl, Nat.le_of_ble_eq_true rfl⟩ rfl rfl hl.1 rfl (Nat.le_of_ble_eq_true rfl) dL_law_1694 ⟨by show _ ≤ 603072; omega, by show _ ≤ 7174250; omega⟩ (fun H locs hI => ?_)
  refine lv_istore (lv' := [(7, .int v), (6, .int (cx [2] q0)), (5, .int x5), (0, .ref bs), (1, .ref (b 0)), (2, .ref (bm 0)), (3, .ref q1), (4, .ref q2)]) C0.1 C0.2.1 dL_law_1697 hl (by decide) rfl (fun ls hl => ?_)
  refine lv_aload_n C0.1 C0.2.1 dL_law_1699 rfl (lv_at hl 5 rfl) ?_
  refine lm_i (As := []) C0 hC hI (c_X10_thrown l g (xb g r T ++ (outs g q1 q2 (ou ciZ o q0) d ++ J) ++ pw 372 (shI g r b) b M) bm H.size n Mm1 rfl) w_1752 w_1753 w_1754 w_132 w_1755 ⟨rfl, rfl⟩ hd_X10_thrown ⟨Nat.le_of_ble_eq_true rfl, Nat.le_of_ble_eq_true rfl⟩ rfl rfl hl.1 rfl (Nat.le_of_ble_eq_true rfl) dL_law_1700 ⟨by show _ ≤ 603072; omega, by show _ ≤ 7174250; omega⟩ (fun H locs hI => ?_)
  refine lv_iload C0.1 C0.2.1 dL_law_1703 (lv_at hl 1 rfl) ?_
  refine lv_icmp_eq (tgt := 1710) C0.1 C0.2.1 dL_law_1705 (by decide) (fun _ => ?_) (fun z => absurd h5 z)
  refine lv_iload C0.1 C0.2.1 dL_law_1710 (lv_at hl 1 rfl) ?_
  refine lv_if_ne (tgt := 1734) C0.1 C0.2.1 dL_law_1712 (by decide) (fun cz => ?_) (fun cz => ?_)
  · skip
    refine lv_goto (tgt := 2968) C0.1 C0.2.1 dL_law_1734 (by decide) ?_
    refine W.widen (k := ca + 40) (n := sa + 3200) (by omega) (by omega) ?_
    exact kk r T M Mm1 (ou ciZ o q0) d J H locs ls hRl1 (lv_sub hl [2, 3, 4, 5, 6, 7] rfl) hI
  · obtain ⟨w, hw⟩ := cx_0 (by decide) cz
    refine lv_aload_n C0.1 C0.2.1 dL_law_1715 rfl (lv_at hl 6 rfl) ?_
    refine lv_iconst (v := 0) C0.1 C0.2.1 dL_law_1716 (by decide) ?_
    refine lc_lald C0 hC hI dL_law_1717 ?_
    rw [our (f := ciZ) hw, updL0]
    refine lv_iload C0.1 C0.2.1 dL_law_1718 (lv_at hl 0 rfl) ?_
    refine lv_if_eq (tgt := 1727) C0.1 C0.2.1 dL_law_1720 (by decide) (fun cz_1 => ?_) (fun cz_1 => ?_)
    · skip
      have hz0 : ciZ w = 0 := by rw [h6 w hw]; exact if_pos cz_1
      refine lv_lconst (v := 0) C0.1 C0.2.1 dL_law_1727 (by decide) ?_
      refine W.lcmp C0.1 C0.2.1 dL_law_1728 ?_
      rw [hz0, lg_eq]
      refine lv_if_eq (tgt := 1734) C0.1 C0.2.1 dL_law_1729 (by decide) (fun _ => ?_) (fun z => absurd rfl z)
      refine lv_goto (tgt := 2968) C0.1 C0.2.1 dL_law_1734 (by decide) ?_
      refine W.widen (k := ca + 40) (n := sa + 3200) (by omega) (by omega) ?_
      exact kk r T M Mm1 (ou ciZ o q0) d J H locs ls hRl1 (lv_sub hl [2, 3, 4, 5, 6, 7] rfl) hI
    · skip
      have hz0 : ciZ w = 1 := by rw [h6 w hw]; exact if_neg cz_1
      refine lv_lconst (v := 1) C0.1 C0.2.1 dL_law_1723 (by decide) ?_
      refine lv_goto (tgt := 1728) C0.1 C0.2.1 dL_law_1724 (by decide) ?_
      refine W.lcmp C0.1 C0.2.1 dL_law_1728 ?_
      rw [hz0, lg_eq]
      refine lv_if_eq (tgt := 1734) C0.1 C0.2.1 dL_law_1729 (by decide) (fun _ => ?_) (fun z => absurd rfl z)
      refine lv_goto (tgt := 2968) C0.1 C0.2.1 dL_law_1734 (by decide) ?_
      refine W.widen (k := ca + 40) (n := sa + 3200) (by omega) (by omega) ?_
      exact kk r T M Mm1 (ou ciZ o q0) d J H locs ls hRl1 (lv_sub hl [2, 3, 4, 5, 6, 7] rfl) hI

def SC_closureWeight (n : Nat) (Rl : Nat → Mem → Mem → Mem → Prop) : Prop := ∀ (j : Nat) (T M Mm : Mem) (x1 : Int32), j < 512 → Rl j T M Mm → ∃ (q0 : RX Int32) (v : Int32) (Mm' : Mem), F_X9_closureWeight n x1 M = some q0 ∧ F_X10_closureWeight n x1 Mm = some (v, Mm') ∧ (∀ k, q0 = .inl k → k = 2) ∧ Mm' 0 0 = cx [2] q0 ∧ (∀ w, q0 = .inr w → w = v) ∧ Rl (j + 1) T M Mm'
set_option maxHeartbeats 4000000 in
theorem law_closureWeight {p : Program} {l : Launch} (hl0 : l.stackTraces = false) {e : Env} {s : State} {m : MethodId} {args : Array Value} {below : List Frame} {meth : Method} {c : Code} {Q : State → Prop} (C0 : CallFix p m c code 9 s args LWg RL) {g : GG} (hC : CC g (AL s) s) {bs L : Nat} {xs : Nat → Int32} (hX : LX bs L xs s) {b bm : Nat → Nat} {q1 q2 n j ca sa : Nat} (hca : ca + 40 ≤ 603072) (hsa : sa + 3200 ≤ 7174250) {x5 : Int32} (hi : ∀ k : Int32, 0 ≤ k → k ≤ 4 → vp_in (x5 + k) L) (hj : j < 512) {Rl : Nat → Mem → Mem → Mem → Prop} (hS : SC_closureWeight n Rl)
    {r : Nat → Nat} {T M Mm : Mem} {o : Nat → Int64} {d : Nat → UInt64} {J : va_W} (hRl : Rl j T M Mm) {H : Heap} {locs : List Loc} {ls : Array Slot} (hl : lv_has ls 9 [(5, .int x5), (0, .ref bs), (1, .ref (b 0)), (2, .ref (bm 0)), (3, .ref q1), (4, .ref q2)]) (hI : KI g (AL s) s (LWc g r b bm q1 q2 T M Mm o d J) H locs)
    (kk : ∀ (r : Nat → Nat) (T M Mm : Mem) (o : Nat → Int64) (d : Nat → UInt64) (J : va_W) (H : Heap) (locs : List Loc) (ls : Array Slot), Rl (j + 1) T M Mm → lv_has ls 9 [(5, .int x5), (0, .ref bs), (1, .ref (b 0)), (2, .ref (bm 0)), (3, .ref q1), (4, .ref q2)] → KI g (AL s) s (LWc g r b bm q1 q2 T M Mm o d J) H locs → W p l e room_1 s m args below meth c H locs (ca + 40) (sa + 3200) Q (F0 m 2968 ls [])) :
    W p l e room_1 s m args below meth c H locs ca sa Q (F0 m 1737 ls []) := by
  refine lv_aload_n C0.1 C0.2.1 dL_law_1737 rfl (lv_at hl 2 rfl) ?_
  refine lv_aload_n C0.1 C0.2.1 dL_law_1738 rfl (lv_at hl 1 rfl) ?_
  refine lv_iload C0.1 C0.2.1 dL_law_1739 (lv_at hl 0 rfl) ?_
  refine lv_iconst (v := 1) C0.1 C0.2.1 dL_law_1741 (by decide) ?_
  refine lv_iadd C0.1 C0.2.1 dL_law_1742 ?_
  refine l_xs C0 hX hI (hi 1 (by decide) (by decide)) dL_law_1743 ?_
  refine lv_aload_n C0.1 C0.2.1 dL_law_1744 rfl (lv_at hl 4 rfl) ?_
  obtain ⟨q0, v, Mm1, h1, h2, h3, h5, h6, hRl1⟩ := hS j T M Mm (xs (ix (x5 + 1))) hj hRl
  refine lc_h (As := [.ref (b 0), .int (xs (ix (x5 + 1))), .ref q1]) C0 hC hI (h_closureWeight l hl0 g (J ++ pw 10 (shM g bm) bm Mm) r b H.size n T M q1 q2 o d (xs (ix (x5 + 1))) h1 h3) w_1099 w_1100 w_118 w_1101 ⟨rfl, rfl⟩ hd_L_closureWeight ⟨Nat.le_of_ble_eq_true rfl, Nat.le_of_ble_eq_true rfl⟩ rfl hl.1 rfl (Nat.le_of_ble_eq_true rfl) dL_law_1745 ⟨by show _ ≤ 603072; omega, by show _ ≤ 7174250; omega⟩ (fun H locs hI => ?_)
  refine lv_istore (lv' := [(6, .int (cx [2] q0)), (5, .int x5), (0, .ref bs), (1, .ref (b 0)), (2, .ref (bm 0)), (3, .ref q1), (4, .ref q2)]) C0.1 C0.2.1 dL_law_1748 hl (by decide) rfl (fun ls hl => ?_)
  refine lv_aload_n C0.1 C0.2.1 dL_law_1750 rfl (lv_at hl 4 rfl) ?_
  refine lv_aload_n C0.1 C0.2.1 dL_law_1751 rfl (lv_at hl 2 rfl) ?_
  refine lv_iload C0.1 C0.2.1 dL_law_1752 (lv_at hl 1 rfl) ?_
  refine lv_iconst (v := 1) C0.1 C0.2.1 dL_law_1754 (by decide) ?_
  refine lv_iadd C0.1 C0.2.1 dL_law_1755 ?_
  refine l_xs C0 hX hI (hi 1 (by decide) (by decide)) dL_law_1756 ?_
  refine lm_i (As := [.int (xs (ix (x5 + 1)))]) C0 hC hI (c_X10_closureWeight l g (xb g r T ++ (outs g q1 q2 (ou ciI o q0) d ++ J) ++ pw 372 (shI g r b) b M) bm H.size n Mm (xs (ix (x5 + 1))) h2) w_2001 w_2002 w_2003 w_132 w_2004 ⟨rfl, rfl⟩ hd_X10_closureWeight ⟨Nat.le_of_ble_eq_true rfl, Nat.le_of_ble_eq_true rfl⟩ rfl rfl hl.1 rfl (Nat.le_of_ble_eq_true rfl) dL_law_1757 ⟨by show _ ≤ 603072; omega, by show _ ≤ 7174250; omega⟩ (fun H locs hI => ?_)
  refine lv_istore (lv' := [(7, .int v), (6, .int (cx [2] q0)), (5, .int x5), (0, .ref bs), (1, .ref (b 0)), (2, .ref (bm 0)), (3, .ref q1), (4, .ref q2)]) C0.1 C0.2.1 dL_law_1760 hl (by decide) rfl (fun ls hl => ?_)
  refine lv_aload_n C0.1 C0.2.1 dL_law_1762 rfl (lv_at hl 5 rfl) ?_
  refine lm_i (As := []) C0 hC hI (c_X10_thrown l g (xb g r T ++ (outs g q1 q2 (ou ciI o q0) d ++ J) ++ pw 372 (shI g r b) b M) bm H.size n Mm1 rfl) w_1752 w_1753 w_1754 w_132 w_1755 ⟨rfl, rfl⟩ hd_X10_thrown ⟨Nat.le_of_ble_eq_true rfl, Nat.le_of_ble_eq_true rfl⟩ rfl rfl hl.1 rfl (Nat.le_of_ble_eq_true rfl) dL_law_1763 ⟨by show _ ≤ 603072; omega, by show _ ≤ 7174250; omega⟩ (fun H locs hI => ?_)
  refine lv_iload C0.1 C0.2.1 dL_law_1766 (lv_at hl 1 rfl) ?_
  refine lv_icmp_eq (tgt := 1773) C0.1 C0.2.1 dL_law_1768 (by decide) (fun _ => ?_) (fun z => absurd h5 z)
  refine lv_iload C0.1 C0.2.1 dL_law_1773 (lv_at hl 1 rfl) ?_
  refine lv_if_ne (tgt := 1790) C0.1 C0.2.1 dL_law_1775 (by decide) (fun cz => ?_) (fun cz => ?_)
  · skip
    refine lv_goto (tgt := 2968) C0.1 C0.2.1 dL_law_1790 (by decide) ?_
    refine W.widen (k := ca + 40) (n := sa + 3200) (by omega) (by omega) ?_
    exact kk r T M Mm1 (ou ciI o q0) d J H locs ls hRl1 (lv_sub hl [2, 3, 4, 5, 6, 7] rfl) hI
  · obtain ⟨w, hw⟩ := cx_0 (by decide) cz
    refine lv_aload_n C0.1 C0.2.1 dL_law_1778 rfl (lv_at hl 6 rfl) ?_
    refine lv_iconst (v := 0) C0.1 C0.2.1 dL_law_1779 (by decide) ?_
    refine lc_lald C0 hC hI dL_law_1780 ?_
    rw [our (f := ciI) hw, updL0]
    refine lv_iload C0.1 C0.2.1 dL_law_1781 (lv_at hl 0 rfl) ?_
    refine lv_i2l C0.1 C0.2.1 dL_law_1783 rfl ?_
    refine W.lcmp C0.1 C0.2.1 dL_law_1784 ?_
    rw [show ciI w = v.toInt64 from by rw [h6 w hw], lg_eq]
    refine lv_if_eq (tgt := 1790) C0.1 C0.2.1 dL_law_1785 (by decide) (fun _ => ?_) (fun z => absurd rfl z)
    refine lv_goto (tgt := 2968) C0.1 C0.2.1 dL_law_1790 (by decide) ?_
    refine W.widen (k := ca + 40) (n := sa + 3200) (by omega) (by omega) ?_
    exact kk r T M Mm1 (ou ciI o q0) d J H locs ls hRl1 (lv_sub hl [2, 3, 4, 5, 6, 7] rfl) hI

def SC_entitledWeight (n : Nat) (Rl : Nat → Mem → Mem → Mem → Prop) : Prop := ∀ (j : Nat) (T M Mm : Mem) (x1 : Int32), j < 512 → Rl j T M Mm → ∃ (q0 : RX Int32) (v : Int32) (Mm' : Mem), F_X9_entitledWeight n x1 M = some q0 ∧ F_X10_entitledWeight n x1 Mm = some (v, Mm') ∧ (∀ k, q0 = .inl k → k = 2) ∧ Mm' 0 0 = cx [2] q0 ∧ (∀ w, q0 = .inr w → w = v) ∧ Rl (j + 1) T M Mm'
set_option maxHeartbeats 4000000 in
theorem law_entitledWeight {p : Program} {l : Launch} (hl0 : l.stackTraces = false) {e : Env} {s : State} {m : MethodId} {args : Array Value} {below : List Frame} {meth : Method} {c : Code} {Q : State → Prop} (C0 : CallFix p m c code 9 s args LWg RL) {g : GG} (hC : CC g (AL s) s) {bs L : Nat} {xs : Nat → Int32} (hX : LX bs L xs s) {b bm : Nat → Nat} {q1 q2 n j ca sa : Nat} (hca : ca + 40 ≤ 603072) (hsa : sa + 3200 ≤ 7174250) {x5 : Int32} (hi : ∀ k : Int32, 0 ≤ k → k ≤ 4 → vp_in (x5 + k) L) (hj : j < 512) {Rl : Nat → Mem → Mem → Mem → Prop} (hS : SC_entitledWeight n Rl)
    {r : Nat → Nat} {T M Mm : Mem} {o : Nat → Int64} {d : Nat → UInt64} {J : va_W} (hRl : Rl j T M Mm) {H : Heap} {locs : List Loc} {ls : Array Slot} (hl : lv_has ls 9 [(5, .int x5), (0, .ref bs), (1, .ref (b 0)), (2, .ref (bm 0)), (3, .ref q1), (4, .ref q2)]) (hI : KI g (AL s) s (LWc g r b bm q1 q2 T M Mm o d J) H locs)
    (kk : ∀ (r : Nat → Nat) (T M Mm : Mem) (o : Nat → Int64) (d : Nat → UInt64) (J : va_W) (H : Heap) (locs : List Loc) (ls : Array Slot), Rl (j + 1) T M Mm → lv_has ls 9 [(5, .int x5), (0, .ref bs), (1, .ref (b 0)), (2, .ref (bm 0)), (3, .ref q1), (4, .ref q2)] → KI g (AL s) s (LWc g r b bm q1 q2 T M Mm o d J) H locs → W p l e room_1 s m args below meth c H locs (ca + 40) (sa + 3200) Q (F0 m 2968 ls [])) :
    W p l e room_1 s m args below meth c H locs ca sa Q (F0 m 1793 ls []) := by
  refine lv_aload_n C0.1 C0.2.1 dL_law_1793 rfl (lv_at hl 2 rfl) ?_
  refine lv_aload_n C0.1 C0.2.1 dL_law_1794 rfl (lv_at hl 1 rfl) ?_
  refine lv_iload C0.1 C0.2.1 dL_law_1795 (lv_at hl 0 rfl) ?_
  refine lv_iconst (v := 1) C0.1 C0.2.1 dL_law_1797 (by decide) ?_
  refine lv_iadd C0.1 C0.2.1 dL_law_1798 ?_
  refine l_xs C0 hX hI (hi 1 (by decide) (by decide)) dL_law_1799 ?_
  refine lv_aload_n C0.1 C0.2.1 dL_law_1800 rfl (lv_at hl 4 rfl) ?_
  obtain ⟨q0, v, Mm1, h1, h2, h3, h5, h6, hRl1⟩ := hS j T M Mm (xs (ix (x5 + 1))) hj hRl
  refine lc_h (As := [.ref (b 0), .int (xs (ix (x5 + 1))), .ref q1]) C0 hC hI (h_entitledWeight l hl0 g (J ++ pw 10 (shM g bm) bm Mm) r b H.size n T M q1 q2 o d (xs (ix (x5 + 1))) h1 h3) w_1106 w_1107 w_118 w_1108 ⟨rfl, rfl⟩ hd_L_entitledWeight ⟨Nat.le_of_ble_eq_true rfl, Nat.le_of_ble_eq_true rfl⟩ rfl hl.1 rfl (Nat.le_of_ble_eq_true rfl) dL_law_1801 ⟨by show _ ≤ 603072; omega, by show _ ≤ 7174250; omega⟩ (fun H locs hI => ?_)
  refine lv_istore (lv' := [(6, .int (cx [2] q0)), (5, .int x5), (0, .ref bs), (1, .ref (b 0)), (2, .ref (bm 0)), (3, .ref q1), (4, .ref q2)]) C0.1 C0.2.1 dL_law_1804 hl (by decide) rfl (fun ls hl => ?_)
  refine lv_aload_n C0.1 C0.2.1 dL_law_1806 rfl (lv_at hl 4 rfl) ?_
  refine lv_aload_n C0.1 C0.2.1 dL_law_1807 rfl (lv_at hl 2 rfl) ?_
  refine lv_iload C0.1 C0.2.1 dL_law_1808 (lv_at hl 1 rfl) ?_
  refine lv_iconst (v := 1) C0.1 C0.2.1 dL_law_1810 (by decide) ?_
  refine lv_iadd C0.1 C0.2.1 dL_law_1811 ?_
  refine l_xs C0 hX hI (hi 1 (by decide) (by decide)) dL_law_1812 ?_
  refine lm_i (As := [.int (xs (ix (x5 + 1)))]) C0 hC hI (c_X10_entitledWeight l g (xb g r T ++ (outs g q1 q2 (ou ciI o q0) d ++ J) ++ pw 372 (shI g r b) b M) bm H.size n Mm (xs (ix (x5 + 1))) h2) w_2005 w_2006 w_2007 w_132 w_2008 ⟨rfl, rfl⟩ hd_X10_entitledWeight ⟨Nat.le_of_ble_eq_true rfl, Nat.le_of_ble_eq_true rfl⟩ rfl rfl hl.1 rfl (Nat.le_of_ble_eq_true rfl) dL_law_1813 ⟨by show _ ≤ 603072; omega, by show _ ≤ 7174250; omega⟩ (fun H locs hI => ?_)
  refine lv_istore (lv' := [(7, .int v), (6, .int (cx [2] q0)), (5, .int x5), (0, .ref bs), (1, .ref (b 0)), (2, .ref (bm 0)), (3, .ref q1), (4, .ref q2)]) C0.1 C0.2.1 dL_law_1816 hl (by decide) rfl (fun ls hl => ?_)
  refine lv_aload_n C0.1 C0.2.1 dL_law_1818 rfl (lv_at hl 5 rfl) ?_
  refine lm_i (As := []) C0 hC hI (c_X10_thrown l g (xb g r T ++ (outs g q1 q2 (ou ciI o q0) d ++ J) ++ pw 372 (shI g r b) b M) bm H.size n Mm1 rfl) w_1752 w_1753 w_1754 w_132 w_1755 ⟨rfl, rfl⟩ hd_X10_thrown ⟨Nat.le_of_ble_eq_true rfl, Nat.le_of_ble_eq_true rfl⟩ rfl rfl hl.1 rfl (Nat.le_of_ble_eq_true rfl) dL_law_1819 ⟨by show _ ≤ 603072; omega, by show _ ≤ 7174250; omega⟩ (fun H locs hI => ?_)
  refine lv_iload C0.1 C0.2.1 dL_law_1822 (lv_at hl 1 rfl) ?_
  refine lv_icmp_eq (tgt := 1829) C0.1 C0.2.1 dL_law_1824 (by decide) (fun _ => ?_) (fun z => absurd h5 z)
  refine lv_iload C0.1 C0.2.1 dL_law_1829 (lv_at hl 1 rfl) ?_
  refine lv_if_ne (tgt := 1846) C0.1 C0.2.1 dL_law_1831 (by decide) (fun cz => ?_) (fun cz => ?_)
  · skip
    refine lv_goto (tgt := 2968) C0.1 C0.2.1 dL_law_1846 (by decide) ?_
    refine W.widen (k := ca + 40) (n := sa + 3200) (by omega) (by omega) ?_
    exact kk r T M Mm1 (ou ciI o q0) d J H locs ls hRl1 (lv_sub hl [2, 3, 4, 5, 6, 7] rfl) hI
  · obtain ⟨w, hw⟩ := cx_0 (by decide) cz
    refine lv_aload_n C0.1 C0.2.1 dL_law_1834 rfl (lv_at hl 6 rfl) ?_
    refine lv_iconst (v := 0) C0.1 C0.2.1 dL_law_1835 (by decide) ?_
    refine lc_lald C0 hC hI dL_law_1836 ?_
    rw [our (f := ciI) hw, updL0]
    refine lv_iload C0.1 C0.2.1 dL_law_1837 (lv_at hl 0 rfl) ?_
    refine lv_i2l C0.1 C0.2.1 dL_law_1839 rfl ?_
    refine W.lcmp C0.1 C0.2.1 dL_law_1840 ?_
    rw [show ciI w = v.toInt64 from by rw [h6 w hw], lg_eq]
    refine lv_if_eq (tgt := 1846) C0.1 C0.2.1 dL_law_1841 (by decide) (fun _ => ?_) (fun z => absurd rfl z)
    refine lv_goto (tgt := 2968) C0.1 C0.2.1 dL_law_1846 (by decide) ?_
    refine W.widen (k := ca + 40) (n := sa + 3200) (by omega) (by omega) ?_
    exact kk r T M Mm1 (ou ciI o q0) d J H locs ls hRl1 (lv_sub hl [2, 3, 4, 5, 6, 7] rfl) hI

def SC_croak (n : Nat) (Rl : Nat → Mem → Mem → Mem → Prop) : Prop := ∀ (j : Nat) (T M Mm : Mem) (x1 : Int32) (x2 : Int32) (x3 : Int32) (x4 : Int32), j < 512 → Rl j T M Mm → (x4 = 0 ∨ x4 = 1) → ∃ (q0 : RX Int32) (M' : Mem) (v : Int32) (Mm' : Mem), F_X9_croak n x1 x2 x3 x4 M = some (q0, M') ∧ F_X10_croak n x1 x2 x3 x4 Mm = some (v, Mm') ∧ (∀ k, q0 = .inl k → k = 2 ∨ k = 1 ∨ k = 0 ∨ k = 4) ∧ Mm' 0 0 = cx [2, 1, 0, 4] q0 ∧ (∀ w, q0 = .inr w → w = v) ∧ Rl (j + 1) T M' Mm'
set_option maxHeartbeats 4000000 in
theorem law_croak {p : Program} {l : Launch} (hl0 : l.stackTraces = false) {e : Env} {s : State} {m : MethodId} {args : Array Value} {below : List Frame} {meth : Method} {c : Code} {Q : State → Prop} (C0 : CallFix p m c code 9 s args LWg RL) {g : GG} (hC : CC g (AL s) s) {bs L : Nat} {xs : Nat → Int32} (hX : LX bs L xs s) {b bm : Nat → Nat} {q1 q2 n j ca sa : Nat} (hca : ca + 40 ≤ 603072) (hsa : sa + 3200 ≤ 7174250) {x5 : Int32} (hi : ∀ k : Int32, 0 ≤ k → k ≤ 4 → vp_in (x5 + k) L) (hj : j < 512) {Rl : Nat → Mem → Mem → Mem → Prop} (hS : SC_croak n Rl)
    {r : Nat → Nat} {T M Mm : Mem} {o : Nat → Int64} {d : Nat → UInt64} {J : va_W} (hRl : Rl j T M Mm) {H : Heap} {locs : List Loc} {ls : Array Slot} (hl : lv_has ls 9 [(5, .int x5), (0, .ref bs), (1, .ref (b 0)), (2, .ref (bm 0)), (3, .ref q1), (4, .ref q2)]) (hI : KI g (AL s) s (LWc g r b bm q1 q2 T M Mm o d J) H locs)
    (kk : ∀ (r : Nat → Nat) (T M Mm : Mem) (o : Nat → Int64) (d : Nat → UInt64) (J : va_W) (H : Heap) (locs : List Loc) (ls : Array Slot), Rl (j + 1) T M Mm → lv_has ls 9 [(5, .int x5), (0, .ref bs), (1, .ref (b 0)), (2, .ref (bm 0)), (3, .ref q1), (4, .ref q2)] → KI g (AL s) s (LWc g r b bm q1 q2 T M Mm o d J) H locs → W p l e room_1 s m args below meth c H locs (ca + 40) (sa + 3200) Q (F0 m 2968 ls [])) :
    W p l e room_1 s m args below meth c H locs ca sa Q (F0 m 1849 ls []) := by
  refine lv_aload_n C0.1 C0.2.1 dL_law_1849 rfl (lv_at hl 2 rfl) ?_
  refine lv_aload_n C0.1 C0.2.1 dL_law_1850 rfl (lv_at hl 1 rfl) ?_
  refine lv_iload C0.1 C0.2.1 dL_law_1851 (lv_at hl 0 rfl) ?_
  refine lv_iconst (v := 1) C0.1 C0.2.1 dL_law_1853 (by decide) ?_
  refine lv_iadd C0.1 C0.2.1 dL_law_1854 ?_
  refine l_xs C0 hX hI (hi 1 (by decide) (by decide)) dL_law_1855 ?_
  refine lv_aload_n C0.1 C0.2.1 dL_law_1856 rfl (lv_at hl 1 rfl) ?_
  refine lv_iload C0.1 C0.2.1 dL_law_1857 (lv_at hl 0 rfl) ?_
  refine lv_iconst (v := 2) C0.1 C0.2.1 dL_law_1859 (by decide) ?_
  refine lv_iadd C0.1 C0.2.1 dL_law_1860 ?_
  refine l_xs C0 hX hI (hi 2 (by decide) (by decide)) dL_law_1861 ?_
  refine lv_aload_n C0.1 C0.2.1 dL_law_1862 rfl (lv_at hl 1 rfl) ?_
  refine lv_iload C0.1 C0.2.1 dL_law_1863 (lv_at hl 0 rfl) ?_
  refine lv_iconst (v := 3) C0.1 C0.2.1 dL_law_1865 (by decide) ?_
  refine lv_iadd C0.1 C0.2.1 dL_law_1866 ?_
  refine l_xs C0 hX hI (hi 3 (by decide) (by decide)) dL_law_1867 ?_
  refine lv_aload_n C0.1 C0.2.1 dL_law_1868 rfl (lv_at hl 1 rfl) ?_
  refine lv_iload C0.1 C0.2.1 dL_law_1869 (lv_at hl 0 rfl) ?_
  refine lv_iconst (v := 4) C0.1 C0.2.1 dL_law_1871 (by decide) ?_
  refine lv_iadd C0.1 C0.2.1 dL_law_1872 ?_
  refine l_xs C0 hX hI (hi 4 (by decide) (by decide)) dL_law_1873 ?_
  refine lv_if_eq (tgt := 1881) C0.1 C0.2.1 dL_law_1874 (by decide) (fun cz_1 => ?_) (fun cz_1 => ?_)
  · skip
    refine lv_iconst (v := 0) C0.1 C0.2.1 dL_law_1881 (by decide) ?_
    refine lv_aload_n C0.1 C0.2.1 dL_law_1882 rfl (lv_at hl 4 rfl) ?_
    obtain ⟨q0, M1, v, Mm1, h1, h2, h3, h5, h6, hRl1⟩ := hS j T M Mm (xs (ix (x5 + 1))) (xs (ix (x5 + 2))) (xs (ix (x5 + 3))) 0 hj hRl (by first | exact Or.inl rfl | exact Or.inr rfl)
    refine lc_h (As := [.ref (b 0), .int (xs (ix (x5 + 1))), .int (xs (ix (x5 + 2))), .int (xs (ix (x5 + 3))), .int 0, .ref q1]) C0 hC hI (h_croak l hl0 g (J ++ pw 10 (shM g bm) bm Mm) r b H.size n T M q1 q2 o d (xs (ix (x5 + 1))) (xs (ix (x5 + 2))) (xs (ix (x5 + 3))) 0 h1 h3) w_1114 w_1115 w_118 w_1116 ⟨rfl, rfl⟩ hd_L_croak ⟨Nat.le_of_ble_eq_true rfl, Nat.le_of_ble_eq_true rfl⟩ rfl hl.1 rfl (Nat.le_of_ble_eq_true rfl) dL_law_1883 ⟨by show _ ≤ 603072; omega, by show _ ≤ 7174250; omega⟩ (fun H locs hI => ?_)
    refine lv_istore (lv' := [(6, .int (cx [2, 1, 0, 4] q0)), (5, .int x5), (0, .ref bs), (1, .ref (b 0)), (2, .ref (bm 0)), (3, .ref q1), (4, .ref q2)]) C0.1 C0.2.1 dL_law_1886 hl (by decide) rfl (fun ls hl => ?_)
    refine lv_aload_n C0.1 C0.2.1 dL_law_1888 rfl (lv_at hl 4 rfl) ?_
    refine lv_aload_n C0.1 C0.2.1 dL_law_1889 rfl (lv_at hl 2 rfl) ?_
    refine lv_iload C0.1 C0.2.1 dL_law_1890 (lv_at hl 1 rfl) ?_
    refine lv_iconst (v := 1) C0.1 C0.2.1 dL_law_1892 (by decide) ?_
    refine lv_iadd C0.1 C0.2.1 dL_law_1893 ?_
    refine l_xs C0 hX hI (hi 1 (by decide) (by decide)) dL_law_1894 ?_
    refine lv_aload_n C0.1 C0.2.1 dL_law_1895 rfl (lv_at hl 2 rfl) ?_
    refine lv_iload C0.1 C0.2.1 dL_law_1896 (lv_at hl 1 rfl) ?_
    refine lv_iconst (v := 2) C0.1 C0.2.1 dL_law_1898 (by decide) ?_
    refine lv_iadd C0.1 C0.2.1 dL_law_1899 ?_
    refine l_xs C0 hX hI (hi 2 (by decide) (by decide)) dL_law_1900 ?_
    refine lv_aload_n C0.1 C0.2.1 dL_law_1901 rfl (lv_at hl 2 rfl) ?_
    refine lv_iload C0.1 C0.2.1 dL_law_1902 (lv_at hl 1 rfl) ?_
    refine lv_iconst (v := 3) C0.1 C0.2.1 dL_law_1904 (by decide) ?_
    refine lv_iadd C0.1 C0.2.1 dL_law_1905 ?_
    refine l_xs C0 hX hI (hi 3 (by decide) (by decide)) dL_law_1906 ?_
    refine lv_aload_n C0.1 C0.2.1 dL_law_1907 rfl (lv_at hl 2 rfl) ?_
    refine lv_iload C0.1 C0.2.1 dL_law_1908 (lv_at hl 1 rfl) ?_
    refine lv_iconst (v := 4) C0.1 C0.2.1 dL_law_1910 (by decide) ?_
    refine lv_iadd C0.1 C0.2.1 dL_law_1911 ?_
    refine l_xs C0 hX hI (hi 4 (by decide) (by decide)) dL_law_1912 ?_
    refine lv_if_eq (tgt := 1920) C0.1 C0.2.1 dL_law_1913 (by decide) (fun _ => ?_) (fun z => absurd cz_1 z)
    refine lv_iconst (v := 0) C0.1 C0.2.1 dL_law_1920 (by decide) ?_
    refine lm_i (As := [.int (xs (ix (x5 + 1))), .int (xs (ix (x5 + 2))), .int (xs (ix (x5 + 3))), .int 0]) C0 hC hI (c_X10_croak l g (xb g r T ++ (outs g q1 q2 (ou ciI o q0) d ++ J) ++ pw 372 (shI g r b) b M1) bm H.size n Mm (xs (ix (x5 + 1))) (xs (ix (x5 + 2))) (xs (ix (x5 + 3))) 0 h2) w_2009 w_2010 w_2011 w_132 w_2012 ⟨rfl, rfl⟩ hd_X10_croak ⟨Nat.le_of_ble_eq_true rfl, Nat.le_of_ble_eq_true rfl⟩ rfl rfl hl.1 rfl (Nat.le_of_ble_eq_true rfl) dL_law_1921 ⟨by show _ ≤ 603072; omega, by show _ ≤ 7174250; omega⟩ (fun H locs hI => ?_)
    refine lv_istore (lv' := [(7, .int v), (6, .int (cx [2, 1, 0, 4] q0)), (5, .int x5), (0, .ref bs), (1, .ref (b 0)), (2, .ref (bm 0)), (3, .ref q1), (4, .ref q2)]) C0.1 C0.2.1 dL_law_1924 hl (by decide) rfl (fun ls hl => ?_)
    refine lv_aload_n C0.1 C0.2.1 dL_law_1926 rfl (lv_at hl 5 rfl) ?_
    refine lm_i (As := []) C0 hC hI (c_X10_thrown l g (xb g r T ++ (outs g q1 q2 (ou ciI o q0) d ++ J) ++ pw 372 (shI g r b) b M1) bm H.size n Mm1 rfl) w_1752 w_1753 w_1754 w_132 w_1755 ⟨rfl, rfl⟩ hd_X10_thrown ⟨Nat.le_of_ble_eq_true rfl, Nat.le_of_ble_eq_true rfl⟩ rfl rfl hl.1 rfl (Nat.le_of_ble_eq_true rfl) dL_law_1927 ⟨by show _ ≤ 603072; omega, by show _ ≤ 7174250; omega⟩ (fun H locs hI => ?_)
    refine lv_iload C0.1 C0.2.1 dL_law_1930 (lv_at hl 1 rfl) ?_
    refine lv_icmp_eq (tgt := 1937) C0.1 C0.2.1 dL_law_1932 (by decide) (fun _ => ?_) (fun z => absurd h5 z)
    refine lv_iload C0.1 C0.2.1 dL_law_1937 (lv_at hl 1 rfl) ?_
    refine lv_if_ne (tgt := 1954) C0.1 C0.2.1 dL_law_1939 (by decide) (fun cz => ?_) (fun cz => ?_)
    · skip
      refine lv_goto (tgt := 2968) C0.1 C0.2.1 dL_law_1954 (by decide) ?_
      refine W.widen (k := ca + 40) (n := sa + 3200) (by omega) (by omega) ?_
      exact kk r T M1 Mm1 (ou ciI o q0) d J H locs ls hRl1 (lv_sub hl [2, 3, 4, 5, 6, 7] rfl) hI
    · obtain ⟨w, hw⟩ := cx_0 (by decide) cz
      refine lv_aload_n C0.1 C0.2.1 dL_law_1942 rfl (lv_at hl 6 rfl) ?_
      refine lv_iconst (v := 0) C0.1 C0.2.1 dL_law_1943 (by decide) ?_
      refine lc_lald C0 hC hI dL_law_1944 ?_
      rw [our (f := ciI) hw, updL0]
      refine lv_iload C0.1 C0.2.1 dL_law_1945 (lv_at hl 0 rfl) ?_
      refine lv_i2l C0.1 C0.2.1 dL_law_1947 rfl ?_
      refine W.lcmp C0.1 C0.2.1 dL_law_1948 ?_
      rw [show ciI w = v.toInt64 from by rw [h6 w hw], lg_eq]
      refine lv_if_eq (tgt := 1954) C0.1 C0.2.1 dL_law_1949 (by decide) (fun _ => ?_) (fun z => absurd rfl z)
      refine lv_goto (tgt := 2968) C0.1 C0.2.1 dL_law_1954 (by decide) ?_
      refine W.widen (k := ca + 40) (n := sa + 3200) (by omega) (by omega) ?_
      exact kk r T M1 Mm1 (ou ciI o q0) d J H locs ls hRl1 (lv_sub hl [2, 3, 4, 5, 6, 7] rfl) hI
  · skip
    refine lv_iconst (v := 1) C0.1 C0.2.1 dL_law_1877 (by decide) ?_
    refine lv_goto (tgt := 1882) C0.1 C0.2.1 dL_law_1878 (by decide) ?_
    refine lv_aload_n C0.1 C0.2.1 dL_law_1882 rfl (lv_at hl 4 rfl) ?_
    obtain ⟨q0, M1, v, Mm1, h1, h2, h3, h5, h6, hRl1⟩ := hS j T M Mm (xs (ix (x5 + 1))) (xs (ix (x5 + 2))) (xs (ix (x5 + 3))) 1 hj hRl (by first | exact Or.inl rfl | exact Or.inr rfl)
    refine lc_h (As := [.ref (b 0), .int (xs (ix (x5 + 1))), .int (xs (ix (x5 + 2))), .int (xs (ix (x5 + 3))), .int 1, .ref q1]) C0 hC hI (h_croak l hl0 g (J ++ pw 10 (shM g bm) bm Mm) r b H.size n T M q1 q2 o d (xs (ix (x5 + 1))) (xs (ix (x5 + 2))) (xs (ix (x5 + 3))) 1 h1 h3) w_1114 w_1115 w_118 w_1116 ⟨rfl, rfl⟩ hd_L_croak ⟨Nat.le_of_ble_eq_true rfl, Nat.le_of_ble_eq_true rfl⟩ rfl hl.1 rfl (Nat.le_of_ble_eq_true rfl) dL_law_1883 ⟨by show _ ≤ 603072; omega, by show _ ≤ 7174250; omega⟩ (fun H locs hI => ?_)
    refine lv_istore (lv' := [(6, .int (cx [2, 1, 0, 4] q0)), (5, .int x5), (0, .ref bs), (1, .ref (b 0)), (2, .ref (bm 0)), (3, .ref q1), (4, .ref q2)]) C0.1 C0.2.1 dL_law_1886 hl (by decide) rfl (fun ls hl => ?_)
    refine lv_aload_n C0.1 C0.2.1 dL_law_1888 rfl (lv_at hl 4 rfl) ?_
    refine lv_aload_n C0.1 C0.2.1 dL_law_1889 rfl (lv_at hl 2 rfl) ?_
    refine lv_iload C0.1 C0.2.1 dL_law_1890 (lv_at hl 1 rfl) ?_
    refine lv_iconst (v := 1) C0.1 C0.2.1 dL_law_1892 (by decide) ?_
    refine lv_iadd C0.1 C0.2.1 dL_law_1893 ?_
    refine l_xs C0 hX hI (hi 1 (by decide) (by decide)) dL_law_1894 ?_
    refine lv_aload_n C0.1 C0.2.1 dL_law_1895 rfl (lv_at hl 2 rfl) ?_
    refine lv_iload C0.1 C0.2.1 dL_law_1896 (lv_at hl 1 rfl) ?_
    refine lv_iconst (v := 2) C0.1 C0.2.1 dL_law_1898 (by decide) ?_
    refine lv_iadd C0.1 C0.2.1 dL_law_1899 ?_
    refine l_xs C0 hX hI (hi 2 (by decide) (by decide)) dL_law_1900 ?_
    refine lv_aload_n C0.1 C0.2.1 dL_law_1901 rfl (lv_at hl 2 rfl) ?_
    refine lv_iload C0.1 C0.2.1 dL_law_1902 (lv_at hl 1 rfl) ?_
    refine lv_iconst (v := 3) C0.1 C0.2.1 dL_law_1904 (by decide) ?_
    refine lv_iadd C0.1 C0.2.1 dL_law_1905 ?_
    refine l_xs C0 hX hI (hi 3 (by decide) (by decide)) dL_law_1906 ?_
    refine lv_aload_n C0.1 C0.2.1 dL_law_1907 rfl (lv_at hl 2 rfl) ?_
    refine lv_iload C0.1 C0.2.1 dL_law_1908 (lv_at hl 1 rfl) ?_
    refine lv_iconst (v := 4) C0.1 C0.2.1 dL_law_1910 (by decide) ?_
    refine lv_iadd C0.1 C0.2.1 dL_law_1911 ?_
    refine l_xs C0 hX hI (hi 4 (by decide) (by decide)) dL_law_1912 ?_
    refine lv_if_eq (tgt := 1920) C0.1 C0.2.1 dL_law_1913 (by decide) (fun z => absurd z cz_1) (fun _ => ?_)
    refine lv_iconst (v := 1) C0.1 C0.2.1 dL_law_1916 (by decide) ?_
    refine lv_goto (tgt := 1921) C0.1 C0.2.1 dL_law_1917 (by decide) ?_
    refine lm_i (As := [.int (xs (ix (x5 + 1))), .int (xs (ix (x5 + 2))), .int (xs (ix (x5 + 3))), .int 1]) C0 hC hI (c_X10_croak l g (xb g r T ++ (outs g q1 q2 (ou ciI o q0) d ++ J) ++ pw 372 (shI g r b) b M1) bm H.size n Mm (xs (ix (x5 + 1))) (xs (ix (x5 + 2))) (xs (ix (x5 + 3))) 1 h2) w_2009 w_2010 w_2011 w_132 w_2012 ⟨rfl, rfl⟩ hd_X10_croak ⟨Nat.le_of_ble_eq_true rfl, Nat.le_of_ble_eq_true rfl⟩ rfl rfl hl.1 rfl (Nat.le_of_ble_eq_true rfl) dL_law_1921 ⟨by show _ ≤ 603072; omega, by show _ ≤ 7174250; omega⟩ (fun H locs hI => ?_)
    refine lv_istore (lv' := [(7, .int v), (6, .int (cx [2, 1, 0, 4] q0)), (5, .int x5), (0, .ref bs), (1, .ref (b 0)), (2, .ref (bm 0)), (3, .ref q1), (4, .ref q2)]) C0.1 C0.2.1 dL_law_1924 hl (by decide) rfl (fun ls hl => ?_)
    refine lv_aload_n C0.1 C0.2.1 dL_law_1926 rfl (lv_at hl 5 rfl) ?_
    refine lm_i (As := []) C0 hC hI (c_X10_thrown l g (xb g r T ++ (outs g q1 q2 (ou ciI o q0) d ++ J) ++ pw 372 (shI g r b) b M1) bm H.size n Mm1 rfl) w_1752 w_1753 w_1754 w_132 w_1755 ⟨rfl, rfl⟩ hd_X10_thrown ⟨Nat.le_of_ble_eq_true rfl, Nat.le_of_ble_eq_true rfl⟩ rfl rfl hl.1 rfl (Nat.le_of_ble_eq_true rfl) dL_law_1927 ⟨by show _ ≤ 603072; omega, by show _ ≤ 7174250; omega⟩ (fun H locs hI => ?_)
    refine lv_iload C0.1 C0.2.1 dL_law_1930 (lv_at hl 1 rfl) ?_
    refine lv_icmp_eq (tgt := 1937) C0.1 C0.2.1 dL_law_1932 (by decide) (fun _ => ?_) (fun z => absurd h5 z)
    refine lv_iload C0.1 C0.2.1 dL_law_1937 (lv_at hl 1 rfl) ?_
    refine lv_if_ne (tgt := 1954) C0.1 C0.2.1 dL_law_1939 (by decide) (fun cz => ?_) (fun cz => ?_)
    · skip
      refine lv_goto (tgt := 2968) C0.1 C0.2.1 dL_law_1954 (by decide) ?_
      refine W.widen (k := ca + 40) (n := sa + 3200) (by omega) (by omega) ?_
      exact kk r T M1 Mm1 (ou ciI o q0) d J H locs ls hRl1 (lv_sub hl [2, 3, 4, 5, 6, 7] rfl) hI
    · obtain ⟨w, hw⟩ := cx_0 (by decide) cz
      refine lv_aload_n C0.1 C0.2.1 dL_law_1942 rfl (lv_at hl 6 rfl) ?_
      refine lv_iconst (v := 0) C0.1 C0.2.1 dL_law_1943 (by decide) ?_
      refine lc_lald C0 hC hI dL_law_1944 ?_
      rw [our (f := ciI) hw, updL0]
      refine lv_iload C0.1 C0.2.1 dL_law_1945 (lv_at hl 0 rfl) ?_
      refine lv_i2l C0.1 C0.2.1 dL_law_1947 rfl ?_
      refine W.lcmp C0.1 C0.2.1 dL_law_1948 ?_
      rw [show ciI w = v.toInt64 from by rw [h6 w hw], lg_eq]
      refine lv_if_eq (tgt := 1954) C0.1 C0.2.1 dL_law_1949 (by decide) (fun _ => ?_) (fun z => absurd rfl z)
      refine lv_goto (tgt := 2968) C0.1 C0.2.1 dL_law_1954 (by decide) ?_
      refine W.widen (k := ca + 40) (n := sa + 3200) (by omega) (by omega) ?_
      exact kk r T M1 Mm1 (ou ciI o q0) d J H locs ls hRl1 (lv_sub hl [2, 3, 4, 5, 6, 7] rfl) hI

def SC_decide (n : Nat) (Rl : Nat → Mem → Mem → Mem → Prop) : Prop := ∀ (j : Nat) (T M Mm : Mem) (x1 : Int32), j < 512 → Rl j T M Mm → ∃ (q0 : RX Int32) (M' : Mem) (v : Int32) (Mm' : Mem), F_X9_decide n x1 M = some (q0, M') ∧ F_X10_decide n x1 Mm = some (v, Mm') ∧ (∀ k, q0 = .inl k → k = 2 ∨ k = 0) ∧ Mm' 0 0 = cx [2, 0] q0 ∧ (∀ w, q0 = .inr w → w = v) ∧ Rl (j + 1) T M' Mm'
set_option maxHeartbeats 4000000 in
theorem law_decide {p : Program} {l : Launch} (hl0 : l.stackTraces = false) {e : Env} {s : State} {m : MethodId} {args : Array Value} {below : List Frame} {meth : Method} {c : Code} {Q : State → Prop} (C0 : CallFix p m c code 9 s args LWg RL) {g : GG} (hC : CC g (AL s) s) {bs L : Nat} {xs : Nat → Int32} (hX : LX bs L xs s) {b bm : Nat → Nat} {q1 q2 n j ca sa : Nat} (hca : ca + 40 ≤ 603072) (hsa : sa + 3200 ≤ 7174250) {x5 : Int32} (hi : ∀ k : Int32, 0 ≤ k → k ≤ 4 → vp_in (x5 + k) L) (hj : j < 512) {Rl : Nat → Mem → Mem → Mem → Prop} (hS : SC_decide n Rl)
    {r : Nat → Nat} {T M Mm : Mem} {o : Nat → Int64} {d : Nat → UInt64} {J : va_W} (hRl : Rl j T M Mm) {H : Heap} {locs : List Loc} {ls : Array Slot} (hl : lv_has ls 9 [(5, .int x5), (0, .ref bs), (1, .ref (b 0)), (2, .ref (bm 0)), (3, .ref q1), (4, .ref q2)]) (hI : KI g (AL s) s (LWc g r b bm q1 q2 T M Mm o d J) H locs)
    (kk : ∀ (r : Nat → Nat) (T M Mm : Mem) (o : Nat → Int64) (d : Nat → UInt64) (J : va_W) (H : Heap) (locs : List Loc) (ls : Array Slot), Rl (j + 1) T M Mm → lv_has ls 9 [(5, .int x5), (0, .ref bs), (1, .ref (b 0)), (2, .ref (bm 0)), (3, .ref q1), (4, .ref q2)] → KI g (AL s) s (LWc g r b bm q1 q2 T M Mm o d J) H locs → W p l e room_1 s m args below meth c H locs (ca + 40) (sa + 3200) Q (F0 m 2968 ls [])) :
    W p l e room_1 s m args below meth c H locs ca sa Q (F0 m 1957 ls []) := by
  refine lv_aload_n C0.1 C0.2.1 dL_law_1957 rfl (lv_at hl 2 rfl) ?_
  refine lv_aload_n C0.1 C0.2.1 dL_law_1958 rfl (lv_at hl 1 rfl) ?_
  refine lv_iload C0.1 C0.2.1 dL_law_1959 (lv_at hl 0 rfl) ?_
  refine lv_iconst (v := 1) C0.1 C0.2.1 dL_law_1961 (by decide) ?_
  refine lv_iadd C0.1 C0.2.1 dL_law_1962 ?_
  refine l_xs C0 hX hI (hi 1 (by decide) (by decide)) dL_law_1963 ?_
  refine lv_aload_n C0.1 C0.2.1 dL_law_1964 rfl (lv_at hl 4 rfl) ?_
  obtain ⟨q0, M1, v, Mm1, h1, h2, h3, h5, h6, hRl1⟩ := hS j T M Mm (xs (ix (x5 + 1))) hj hRl
  refine lc_h (As := [.ref (b 0), .int (xs (ix (x5 + 1))), .ref q1]) C0 hC hI (h_decide l hl0 g (J ++ pw 10 (shM g bm) bm Mm) r b H.size n T M q1 q2 o d (xs (ix (x5 + 1))) h1 h3) w_1150 w_1151 w_118 w_1152 ⟨rfl, rfl⟩ hd_L_decide ⟨Nat.le_of_ble_eq_true rfl, Nat.le_of_ble_eq_true rfl⟩ rfl hl.1 rfl (Nat.le_of_ble_eq_true rfl) dL_law_1965 ⟨by show _ ≤ 603072; omega, by show _ ≤ 7174250; omega⟩ (fun H locs hI => ?_)
  refine lv_istore (lv' := [(6, .int (cx [2, 0] q0)), (5, .int x5), (0, .ref bs), (1, .ref (b 0)), (2, .ref (bm 0)), (3, .ref q1), (4, .ref q2)]) C0.1 C0.2.1 dL_law_1968 hl (by decide) rfl (fun ls hl => ?_)
  refine lv_aload_n C0.1 C0.2.1 dL_law_1970 rfl (lv_at hl 4 rfl) ?_
  refine lv_aload_n C0.1 C0.2.1 dL_law_1971 rfl (lv_at hl 2 rfl) ?_
  refine lv_iload C0.1 C0.2.1 dL_law_1972 (lv_at hl 1 rfl) ?_
  refine lv_iconst (v := 1) C0.1 C0.2.1 dL_law_1974 (by decide) ?_
  refine lv_iadd C0.1 C0.2.1 dL_law_1975 ?_
  refine l_xs C0 hX hI (hi 1 (by decide) (by decide)) dL_law_1976 ?_
  refine lm_i (As := [.int (xs (ix (x5 + 1)))]) C0 hC hI (c_X10_decide l g (xb g r T ++ (outs g q1 q2 (ou ciZ o q0) d ++ J) ++ pw 372 (shI g r b) b M1) bm H.size n Mm (xs (ix (x5 + 1))) h2) w_2036 w_2037 w_2038 w_132 w_2039 ⟨rfl, rfl⟩ hd_X10_decide ⟨Nat.le_of_ble_eq_true rfl, Nat.le_of_ble_eq_true rfl⟩ rfl rfl hl.1 rfl (Nat.le_of_ble_eq_true rfl) dL_law_1977 ⟨by show _ ≤ 603072; omega, by show _ ≤ 7174250; omega⟩ (fun H locs hI => ?_)
  refine lv_istore (lv' := [(7, .int v), (6, .int (cx [2, 0] q0)), (5, .int x5), (0, .ref bs), (1, .ref (b 0)), (2, .ref (bm 0)), (3, .ref q1), (4, .ref q2)]) C0.1 C0.2.1 dL_law_1980 hl (by decide) rfl (fun ls hl => ?_)
  refine lv_aload_n C0.1 C0.2.1 dL_law_1982 rfl (lv_at hl 5 rfl) ?_
  refine lm_i (As := []) C0 hC hI (c_X10_thrown l g (xb g r T ++ (outs g q1 q2 (ou ciZ o q0) d ++ J) ++ pw 372 (shI g r b) b M1) bm H.size n Mm1 rfl) w_1752 w_1753 w_1754 w_132 w_1755 ⟨rfl, rfl⟩ hd_X10_thrown ⟨Nat.le_of_ble_eq_true rfl, Nat.le_of_ble_eq_true rfl⟩ rfl rfl hl.1 rfl (Nat.le_of_ble_eq_true rfl) dL_law_1983 ⟨by show _ ≤ 603072; omega, by show _ ≤ 7174250; omega⟩ (fun H locs hI => ?_)
  refine lv_iload C0.1 C0.2.1 dL_law_1986 (lv_at hl 1 rfl) ?_
  refine lv_icmp_eq (tgt := 1993) C0.1 C0.2.1 dL_law_1988 (by decide) (fun _ => ?_) (fun z => absurd h5 z)
  refine lv_iload C0.1 C0.2.1 dL_law_1993 (lv_at hl 1 rfl) ?_
  refine lv_if_ne (tgt := 2017) C0.1 C0.2.1 dL_law_1995 (by decide) (fun cz => ?_) (fun cz => ?_)
  · skip
    refine lv_goto (tgt := 2968) C0.1 C0.2.1 dL_law_2017 (by decide) ?_
    refine W.widen (k := ca + 40) (n := sa + 3200) (by omega) (by omega) ?_
    exact kk r T M1 Mm1 (ou ciZ o q0) d J H locs ls hRl1 (lv_sub hl [2, 3, 4, 5, 6, 7] rfl) hI
  · obtain ⟨w, hw⟩ := cx_0 (by decide) cz
    refine lv_aload_n C0.1 C0.2.1 dL_law_1998 rfl (lv_at hl 6 rfl) ?_
    refine lv_iconst (v := 0) C0.1 C0.2.1 dL_law_1999 (by decide) ?_
    refine lc_lald C0 hC hI dL_law_2000 ?_
    rw [our (f := ciZ) hw, updL0]
    refine lv_iload C0.1 C0.2.1 dL_law_2001 (lv_at hl 0 rfl) ?_
    refine lv_if_eq (tgt := 2010) C0.1 C0.2.1 dL_law_2003 (by decide) (fun cz_1 => ?_) (fun cz_1 => ?_)
    · skip
      have hz0 : ciZ w = 0 := by rw [h6 w hw]; exact if_pos cz_1
      refine lv_lconst (v := 0) C0.1 C0.2.1 dL_law_2010 (by decide) ?_
      refine W.lcmp C0.1 C0.2.1 dL_law_2011 ?_
      rw [hz0, lg_eq]
      refine lv_if_eq (tgt := 2017) C0.1 C0.2.1 dL_law_2012 (by decide) (fun _ => ?_) (fun z => absurd rfl z)
      refine lv_goto (tgt := 2968) C0.1 C0.2.1 dL_law_2017 (by decide) ?_
      refine W.widen (k := ca + 40) (n := sa + 3200) (by omega) (by omega) ?_
      exact kk r T M1 Mm1 (ou ciZ o q0) d J H locs ls hRl1 (lv_sub hl [2, 3, 4, 5, 6, 7] rfl) hI
    · skip
      have hz0 : ciZ w = 1 := by rw [h6 w hw]; exact if_neg cz_1
      refine lv_lconst (v := 1) C0.1 C0.2.1 dL_law_2006 (by decide) ?_
      refine lv_goto (tgt := 2011) C0.1 C0.2.1 dL_law_2007 (by decide) ?_
      refine W.lcmp C0.1 C0.2.1 dL_law_2011 ?_
      rw [hz0, lg_eq]
      refine lv_if_eq (tgt := 2017) C0.1 C0.2.1 dL_law_2012 (by decide) (fun _ => ?_) (fun z => absurd rfl z)
      refine lv_goto (tgt := 2968) C0.1 C0.2.1 dL_law_2017 (by decide) ?_
      refine W.widen (k := ca + 40) (n := sa + 3200) (by omega) (by omega) ?_
      exact kk r T M1 Mm1 (ou ciZ o q0) d J H locs ls hRl1 (lv_sub hl [2, 3, 4, 5, 6, 7] rfl) hI

def SC_isDecided (n : Nat) (Rl : Nat → Mem → Mem → Mem → Prop) : Prop := ∀ (j : Nat) (T M Mm : Mem) (x1 : Int32), j < 512 → Rl j T M Mm → ∃ (q0 : RX Int32) (v : Int32) (Mm' : Mem), F_X9_isDecided n x1 M = some q0 ∧ F_X10_isDecided n x1 Mm = some (v, Mm') ∧ (∀ k, q0 = .inl k → k = 2) ∧ Mm' 0 0 = cx [2] q0 ∧ (∀ w, q0 = .inr w → w = v) ∧ Rl (j + 1) T M Mm'
set_option maxHeartbeats 4000000 in
theorem law_isDecided {p : Program} {l : Launch} (hl0 : l.stackTraces = false) {e : Env} {s : State} {m : MethodId} {args : Array Value} {below : List Frame} {meth : Method} {c : Code} {Q : State → Prop} (C0 : CallFix p m c code 9 s args LWg RL) {g : GG} (hC : CC g (AL s) s) {bs L : Nat} {xs : Nat → Int32} (hX : LX bs L xs s) {b bm : Nat → Nat} {q1 q2 n j ca sa : Nat} (hca : ca + 40 ≤ 603072) (hsa : sa + 3200 ≤ 7174250) {x5 : Int32} (hi : ∀ k : Int32, 0 ≤ k → k ≤ 4 → vp_in (x5 + k) L) (hj : j < 512) {Rl : Nat → Mem → Mem → Mem → Prop} (hS : SC_isDecided n Rl)
    {r : Nat → Nat} {T M Mm : Mem} {o : Nat → Int64} {d : Nat → UInt64} {J : va_W} (hRl : Rl j T M Mm) {H : Heap} {locs : List Loc} {ls : Array Slot} (hl : lv_has ls 9 [(5, .int x5), (0, .ref bs), (1, .ref (b 0)), (2, .ref (bm 0)), (3, .ref q1), (4, .ref q2)]) (hI : KI g (AL s) s (LWc g r b bm q1 q2 T M Mm o d J) H locs)
    (kk : ∀ (r : Nat → Nat) (T M Mm : Mem) (o : Nat → Int64) (d : Nat → UInt64) (J : va_W) (H : Heap) (locs : List Loc) (ls : Array Slot), Rl (j + 1) T M Mm → lv_has ls 9 [(5, .int x5), (0, .ref bs), (1, .ref (b 0)), (2, .ref (bm 0)), (3, .ref q1), (4, .ref q2)] → KI g (AL s) s (LWc g r b bm q1 q2 T M Mm o d J) H locs → W p l e room_1 s m args below meth c H locs (ca + 40) (sa + 3200) Q (F0 m 2968 ls [])) :
    W p l e room_1 s m args below meth c H locs ca sa Q (F0 m 2020 ls []) := by
  refine lv_aload_n C0.1 C0.2.1 dL_law_2020 rfl (lv_at hl 2 rfl) ?_
  refine lv_aload_n C0.1 C0.2.1 dL_law_2021 rfl (lv_at hl 1 rfl) ?_
  refine lv_iload C0.1 C0.2.1 dL_law_2022 (lv_at hl 0 rfl) ?_
  refine lv_iconst (v := 1) C0.1 C0.2.1 dL_law_2024 (by decide) ?_
  refine lv_iadd C0.1 C0.2.1 dL_law_2025 ?_
  refine l_xs C0 hX hI (hi 1 (by decide) (by decide)) dL_law_2026 ?_
  refine lv_aload_n C0.1 C0.2.1 dL_law_2027 rfl (lv_at hl 4 rfl) ?_
  obtain ⟨q0, v, Mm1, h1, h2, h3, h5, h6, hRl1⟩ := hS j T M Mm (xs (ix (x5 + 1))) hj hRl
  refine lc_h (As := [.ref (b 0), .int (xs (ix (x5 + 1))), .ref q1]) C0 hC hI (h_isDecided l hl0 g (J ++ pw 10 (shM g bm) bm Mm) r b H.size n T M q1 q2 o d (xs (ix (x5 + 1))) h1 h3) w_1162 w_1163 w_118 w_1164 ⟨rfl, rfl⟩ hd_L_isDecided ⟨Nat.le_of_ble_eq_true rfl, Nat.le_of_ble_eq_true rfl⟩ rfl hl.1 rfl (Nat.le_of_ble_eq_true rfl) dL_law_2028 ⟨by show _ ≤ 603072; omega, by show _ ≤ 7174250; omega⟩ (fun H locs hI => ?_)
  refine lv_istore (lv' := [(6, .int (cx [2] q0)), (5, .int x5), (0, .ref bs), (1, .ref (b 0)), (2, .ref (bm 0)), (3, .ref q1), (4, .ref q2)]) C0.1 C0.2.1 dL_law_2031 hl (by decide) rfl (fun ls hl => ?_)
  refine lv_aload_n C0.1 C0.2.1 dL_law_2033 rfl (lv_at hl 4 rfl) ?_
  refine lv_aload_n C0.1 C0.2.1 dL_law_2034 rfl (lv_at hl 2 rfl) ?_
  refine lv_iload C0.1 C0.2.1 dL_law_2035 (lv_at hl 1 rfl) ?_
  refine lv_iconst (v := 1) C0.1 C0.2.1 dL_law_2037 (by decide) ?_
  refine lv_iadd C0.1 C0.2.1 dL_law_2038 ?_
  refine l_xs C0 hX hI (hi 1 (by decide) (by decide)) dL_law_2039 ?_
  refine lm_i (As := [.int (xs (ix (x5 + 1)))]) C0 hC hI (c_X10_isDecided l g (xb g r T ++ (outs g q1 q2 (ou ciZ o q0) d ++ J) ++ pw 372 (shI g r b) b M) bm H.size n Mm (xs (ix (x5 + 1))) h2) w_2044 w_2045 w_2046 w_132 w_2047 ⟨rfl, rfl⟩ hd_X10_isDecided ⟨Nat.le_of_ble_eq_true rfl, Nat.le_of_ble_eq_true rfl⟩ rfl rfl hl.1 rfl (Nat.le_of_ble_eq_true rfl) dL_law_2040 ⟨by show _ ≤ 603072; omega, by show _ ≤ 7174250; omega⟩ (fun H locs hI => ?_)
  refine lv_istore (lv' := [(7, .int v), (6, .int (cx [2] q0)), (5, .int x5), (0, .ref bs), (1, .ref (b 0)), (2, .ref (bm 0)), (3, .ref q1), (4, .ref q2)]) C0.1 C0.2.1 dL_law_2043 hl (by decide) rfl (fun ls hl => ?_)
  refine lv_aload_n C0.1 C0.2.1 dL_law_2045 rfl (lv_at hl 5 rfl) ?_
  refine lm_i (As := []) C0 hC hI (c_X10_thrown l g (xb g r T ++ (outs g q1 q2 (ou ciZ o q0) d ++ J) ++ pw 372 (shI g r b) b M) bm H.size n Mm1 rfl) w_1752 w_1753 w_1754 w_132 w_1755 ⟨rfl, rfl⟩ hd_X10_thrown ⟨Nat.le_of_ble_eq_true rfl, Nat.le_of_ble_eq_true rfl⟩ rfl rfl hl.1 rfl (Nat.le_of_ble_eq_true rfl) dL_law_2046 ⟨by show _ ≤ 603072; omega, by show _ ≤ 7174250; omega⟩ (fun H locs hI => ?_)
  refine lv_iload C0.1 C0.2.1 dL_law_2049 (lv_at hl 1 rfl) ?_
  refine lv_icmp_eq (tgt := 2056) C0.1 C0.2.1 dL_law_2051 (by decide) (fun _ => ?_) (fun z => absurd h5 z)
  refine lv_iload C0.1 C0.2.1 dL_law_2056 (lv_at hl 1 rfl) ?_
  refine lv_if_ne (tgt := 2080) C0.1 C0.2.1 dL_law_2058 (by decide) (fun cz => ?_) (fun cz => ?_)
  · skip
    refine lv_goto (tgt := 2968) C0.1 C0.2.1 dL_law_2080 (by decide) ?_
    refine W.widen (k := ca + 40) (n := sa + 3200) (by omega) (by omega) ?_
    exact kk r T M Mm1 (ou ciZ o q0) d J H locs ls hRl1 (lv_sub hl [2, 3, 4, 5, 6, 7] rfl) hI
  · obtain ⟨w, hw⟩ := cx_0 (by decide) cz
    refine lv_aload_n C0.1 C0.2.1 dL_law_2061 rfl (lv_at hl 6 rfl) ?_
    refine lv_iconst (v := 0) C0.1 C0.2.1 dL_law_2062 (by decide) ?_
    refine lc_lald C0 hC hI dL_law_2063 ?_
    rw [our (f := ciZ) hw, updL0]
    refine lv_iload C0.1 C0.2.1 dL_law_2064 (lv_at hl 0 rfl) ?_
    refine lv_if_eq (tgt := 2073) C0.1 C0.2.1 dL_law_2066 (by decide) (fun cz_1 => ?_) (fun cz_1 => ?_)
    · skip
      have hz0 : ciZ w = 0 := by rw [h6 w hw]; exact if_pos cz_1
      refine lv_lconst (v := 0) C0.1 C0.2.1 dL_law_2073 (by decide) ?_
      refine W.lcmp C0.1 C0.2.1 dL_law_2074 ?_
      rw [hz0, lg_eq]
      refine lv_if_eq (tgt := 2080) C0.1 C0.2.1 dL_law_2075 (by decide) (fun _ => ?_) (fun z => absurd rfl z)
      refine lv_goto (tgt := 2968) C0.1 C0.2.1 dL_law_2080 (by decide) ?_
      refine W.widen (k := ca + 40) (n := sa + 3200) (by omega) (by omega) ?_
      exact kk r T M Mm1 (ou ciZ o q0) d J H locs ls hRl1 (lv_sub hl [2, 3, 4, 5, 6, 7] rfl) hI
    · skip
      have hz0 : ciZ w = 1 := by rw [h6 w hw]; exact if_neg cz_1
      refine lv_lconst (v := 1) C0.1 C0.2.1 dL_law_2069 (by decide) ?_
      refine lv_goto (tgt := 2074) C0.1 C0.2.1 dL_law_2070 (by decide) ?_
      refine W.lcmp C0.1 C0.2.1 dL_law_2074 ?_
      rw [hz0, lg_eq]
      refine lv_if_eq (tgt := 2080) C0.1 C0.2.1 dL_law_2075 (by decide) (fun _ => ?_) (fun z => absurd rfl z)
      refine lv_goto (tgt := 2968) C0.1 C0.2.1 dL_law_2080 (by decide) ?_
      refine W.widen (k := ca + 40) (n := sa + 3200) (by omega) (by omega) ?_
      exact kk r T M Mm1 (ou ciZ o q0) d J H locs ls hRl1 (lv_sub hl [2, 3, 4, 5, 6, 7] rfl) hI

def SC_isAdopted (n : Nat) (Rl : Nat → Mem → Mem → Mem → Prop) : Prop := ∀ (j : Nat) (T M Mm : Mem) (x1 : Int32), j < 512 → Rl j T M Mm → ∃ (q0 : RX Int32) (v : Int32) (Mm' : Mem), F_X9_isAdopted n x1 M = some q0 ∧ F_X10_isAdopted n x1 Mm = some (v, Mm') ∧ (∀ k, q0 = .inl k → k = 2) ∧ Mm' 0 0 = cx [2] q0 ∧ (∀ w, q0 = .inr w → w = v) ∧ Rl (j + 1) T M Mm'
set_option maxHeartbeats 4000000 in
theorem law_isAdopted {p : Program} {l : Launch} (hl0 : l.stackTraces = false) {e : Env} {s : State} {m : MethodId} {args : Array Value} {below : List Frame} {meth : Method} {c : Code} {Q : State → Prop} (C0 : CallFix p m c code 9 s args LWg RL) {g : GG} (hC : CC g (AL s) s) {bs L : Nat} {xs : Nat → Int32} (hX : LX bs L xs s) {b bm : Nat → Nat} {q1 q2 n j ca sa : Nat} (hca : ca + 40 ≤ 603072) (hsa : sa + 3200 ≤ 7174250) {x5 : Int32} (hi : ∀ k : Int32, 0 ≤ k → k ≤ 4 → vp_in (x5 + k) L) (hj : j < 512) {Rl : Nat → Mem → Mem → Mem → Prop} (hS : SC_isAdopted n Rl)
    {r : Nat → Nat} {T M Mm : Mem} {o : Nat → Int64} {d : Nat → UInt64} {J : va_W} (hRl : Rl j T M Mm) {H : Heap} {locs : List Loc} {ls : Array Slot} (hl : lv_has ls 9 [(5, .int x5), (0, .ref bs), (1, .ref (b 0)), (2, .ref (bm 0)), (3, .ref q1), (4, .ref q2)]) (hI : KI g (AL s) s (LWc g r b bm q1 q2 T M Mm o d J) H locs)
    (kk : ∀ (r : Nat → Nat) (T M Mm : Mem) (o : Nat → Int64) (d : Nat → UInt64) (J : va_W) (H : Heap) (locs : List Loc) (ls : Array Slot), Rl (j + 1) T M Mm → lv_has ls 9 [(5, .int x5), (0, .ref bs), (1, .ref (b 0)), (2, .ref (bm 0)), (3, .ref q1), (4, .ref q2)] → KI g (AL s) s (LWc g r b bm q1 q2 T M Mm o d J) H locs → W p l e room_1 s m args below meth c H locs (ca + 40) (sa + 3200) Q (F0 m 2968 ls [])) :
    W p l e room_1 s m args below meth c H locs ca sa Q (F0 m 2083 ls []) := by
  refine lv_aload_n C0.1 C0.2.1 dL_law_2083 rfl (lv_at hl 2 rfl) ?_
  refine lv_aload_n C0.1 C0.2.1 dL_law_2084 rfl (lv_at hl 1 rfl) ?_
  refine lv_iload C0.1 C0.2.1 dL_law_2085 (lv_at hl 0 rfl) ?_
  refine lv_iconst (v := 1) C0.1 C0.2.1 dL_law_2087 (by decide) ?_
  refine lv_iadd C0.1 C0.2.1 dL_law_2088 ?_
  refine l_xs C0 hX hI (hi 1 (by decide) (by decide)) dL_law_2089 ?_
  refine lv_aload_n C0.1 C0.2.1 dL_law_2090 rfl (lv_at hl 4 rfl) ?_
  obtain ⟨q0, v, Mm1, h1, h2, h3, h5, h6, hRl1⟩ := hS j T M Mm (xs (ix (x5 + 1))) hj hRl
  refine lc_h (As := [.ref (b 0), .int (xs (ix (x5 + 1))), .ref q1]) C0 hC hI (h_isAdopted l hl0 g (J ++ pw 10 (shM g bm) bm Mm) r b H.size n T M q1 q2 o d (xs (ix (x5 + 1))) h1 h3) w_1169 w_1170 w_118 w_1171 ⟨rfl, rfl⟩ hd_L_isAdopted ⟨Nat.le_of_ble_eq_true rfl, Nat.le_of_ble_eq_true rfl⟩ rfl hl.1 rfl (Nat.le_of_ble_eq_true rfl) dL_law_2091 ⟨by show _ ≤ 603072; omega, by show _ ≤ 7174250; omega⟩ (fun H locs hI => ?_)
  refine lv_istore (lv' := [(6, .int (cx [2] q0)), (5, .int x5), (0, .ref bs), (1, .ref (b 0)), (2, .ref (bm 0)), (3, .ref q1), (4, .ref q2)]) C0.1 C0.2.1 dL_law_2094 hl (by decide) rfl (fun ls hl => ?_)
  refine lv_aload_n C0.1 C0.2.1 dL_law_2096 rfl (lv_at hl 4 rfl) ?_
  refine lv_aload_n C0.1 C0.2.1 dL_law_2097 rfl (lv_at hl 2 rfl) ?_
  refine lv_iload C0.1 C0.2.1 dL_law_2098 (lv_at hl 1 rfl) ?_
  refine lv_iconst (v := 1) C0.1 C0.2.1 dL_law_2100 (by decide) ?_
  refine lv_iadd C0.1 C0.2.1 dL_law_2101 ?_
  refine l_xs C0 hX hI (hi 1 (by decide) (by decide)) dL_law_2102 ?_
  refine lm_i (As := [.int (xs (ix (x5 + 1)))]) C0 hC hI (c_X10_isAdopted l g (xb g r T ++ (outs g q1 q2 (ou ciZ o q0) d ++ J) ++ pw 372 (shI g r b) b M) bm H.size n Mm (xs (ix (x5 + 1))) h2) w_2048 w_2049 w_2050 w_132 w_2051 ⟨rfl, rfl⟩ hd_X10_isAdopted ⟨Nat.le_of_ble_eq_true rfl, Nat.le_of_ble_eq_true rfl⟩ rfl rfl hl.1 rfl (Nat.le_of_ble_eq_true rfl) dL_law_2103 ⟨by show _ ≤ 603072; omega, by show _ ≤ 7174250; omega⟩ (fun H locs hI => ?_)
  refine lv_istore (lv' := [(7, .int v), (6, .int (cx [2] q0)), (5, .int x5), (0, .ref bs), (1, .ref (b 0)), (2, .ref (bm 0)), (3, .ref q1), (4, .ref q2)]) C0.1 C0.2.1 dL_law_2106 hl (by decide) rfl (fun ls hl => ?_)
  refine lv_aload_n C0.1 C0.2.1 dL_law_2108 rfl (lv_at hl 5 rfl) ?_
  refine lm_i (As := []) C0 hC hI (c_X10_thrown l g (xb g r T ++ (outs g q1 q2 (ou ciZ o q0) d ++ J) ++ pw 372 (shI g r b) b M) bm H.size n Mm1 rfl) w_1752 w_1753 w_1754 w_132 w_1755 ⟨rfl, rfl⟩ hd_X10_thrown ⟨Nat.le_of_ble_eq_true rfl, Nat.le_of_ble_eq_true rfl⟩ rfl rfl hl.1 rfl (Nat.le_of_ble_eq_true rfl) dL_law_2109 ⟨by show _ ≤ 603072; omega, by show _ ≤ 7174250; omega⟩ (fun H locs hI => ?_)
  refine lv_iload C0.1 C0.2.1 dL_law_2112 (lv_at hl 1 rfl) ?_
  refine lv_icmp_eq (tgt := 2119) C0.1 C0.2.1 dL_law_2114 (by decide) (fun _ => ?_) (fun z => absurd h5 z)
  refine lv_iload C0.1 C0.2.1 dL_law_2119 (lv_at hl 1 rfl) ?_
  refine lv_if_ne (tgt := 2143) C0.1 C0.2.1 dL_law_2121 (by decide) (fun cz => ?_) (fun cz => ?_)
  · skip
    refine lv_goto (tgt := 2968) C0.1 C0.2.1 dL_law_2143 (by decide) ?_
    refine W.widen (k := ca + 40) (n := sa + 3200) (by omega) (by omega) ?_
    exact kk r T M Mm1 (ou ciZ o q0) d J H locs ls hRl1 (lv_sub hl [2, 3, 4, 5, 6, 7] rfl) hI
  · obtain ⟨w, hw⟩ := cx_0 (by decide) cz
    refine lv_aload_n C0.1 C0.2.1 dL_law_2124 rfl (lv_at hl 6 rfl) ?_
    refine lv_iconst (v := 0) C0.1 C0.2.1 dL_law_2125 (by decide) ?_
    refine lc_lald C0 hC hI dL_law_2126 ?_
    rw [our (f := ciZ) hw, updL0]
    refine lv_iload C0.1 C0.2.1 dL_law_2127 (lv_at hl 0 rfl) ?_
    refine lv_if_eq (tgt := 2136) C0.1 C0.2.1 dL_law_2129 (by decide) (fun cz_1 => ?_) (fun cz_1 => ?_)
    · skip
      have hz0 : ciZ w = 0 := by rw [h6 w hw]; exact if_pos cz_1
      refine lv_lconst (v := 0) C0.1 C0.2.1 dL_law_2136 (by decide) ?_
      refine W.lcmp C0.1 C0.2.1 dL_law_2137 ?_
      rw [hz0, lg_eq]
      refine lv_if_eq (tgt := 2143) C0.1 C0.2.1 dL_law_2138 (by decide) (fun _ => ?_) (fun z => absurd rfl z)
      refine lv_goto (tgt := 2968) C0.1 C0.2.1 dL_law_2143 (by decide) ?_
      refine W.widen (k := ca + 40) (n := sa + 3200) (by omega) (by omega) ?_
      exact kk r T M Mm1 (ou ciZ o q0) d J H locs ls hRl1 (lv_sub hl [2, 3, 4, 5, 6, 7] rfl) hI
    · skip
      have hz0 : ciZ w = 1 := by rw [h6 w hw]; exact if_neg cz_1
      refine lv_lconst (v := 1) C0.1 C0.2.1 dL_law_2132 (by decide) ?_
      refine lv_goto (tgt := 2137) C0.1 C0.2.1 dL_law_2133 (by decide) ?_
      refine W.lcmp C0.1 C0.2.1 dL_law_2137 ?_
      rw [hz0, lg_eq]
      refine lv_if_eq (tgt := 2143) C0.1 C0.2.1 dL_law_2138 (by decide) (fun _ => ?_) (fun z => absurd rfl z)
      refine lv_goto (tgt := 2968) C0.1 C0.2.1 dL_law_2143 (by decide) ?_
      refine W.widen (k := ca + 40) (n := sa + 3200) (by omega) (by omega) ?_
      exact kk r T M Mm1 (ou ciZ o q0) d J H locs ls hRl1 (lv_sub hl [2, 3, 4, 5, 6, 7] rfl) hI

def SC_croaksFor (n : Nat) (Rl : Nat → Mem → Mem → Mem → Prop) : Prop := ∀ (j : Nat) (T M Mm : Mem) (x1 : Int32), j < 512 → Rl j T M Mm → ∃ (q0 : RX Int32) (v : Int32) (Mm' : Mem), F_X9_croaksFor n x1 M = some q0 ∧ F_X10_croaksFor n x1 Mm = some (v, Mm') ∧ (∀ k, q0 = .inl k → k = 2) ∧ Mm' 0 0 = cx [2] q0 ∧ (∀ w, q0 = .inr w → w = v) ∧ Rl (j + 1) T M Mm'
set_option maxHeartbeats 4000000 in
theorem law_croaksFor {p : Program} {l : Launch} (hl0 : l.stackTraces = false) {e : Env} {s : State} {m : MethodId} {args : Array Value} {below : List Frame} {meth : Method} {c : Code} {Q : State → Prop} (C0 : CallFix p m c code 9 s args LWg RL) {g : GG} (hC : CC g (AL s) s) {bs L : Nat} {xs : Nat → Int32} (hX : LX bs L xs s) {b bm : Nat → Nat} {q1 q2 n j ca sa : Nat} (hca : ca + 40 ≤ 603072) (hsa : sa + 3200 ≤ 7174250) {x5 : Int32} (hi : ∀ k : Int32, 0 ≤ k → k ≤ 4 → vp_in (x5 + k) L) (hj : j < 512) {Rl : Nat → Mem → Mem → Mem → Prop} (hS : SC_croaksFor n Rl)
    {r : Nat → Nat} {T M Mm : Mem} {o : Nat → Int64} {d : Nat → UInt64} {J : va_W} (hRl : Rl j T M Mm) {H : Heap} {locs : List Loc} {ls : Array Slot} (hl : lv_has ls 9 [(5, .int x5), (0, .ref bs), (1, .ref (b 0)), (2, .ref (bm 0)), (3, .ref q1), (4, .ref q2)]) (hI : KI g (AL s) s (LWc g r b bm q1 q2 T M Mm o d J) H locs)
    (kk : ∀ (r : Nat → Nat) (T M Mm : Mem) (o : Nat → Int64) (d : Nat → UInt64) (J : va_W) (H : Heap) (locs : List Loc) (ls : Array Slot), Rl (j + 1) T M Mm → lv_has ls 9 [(5, .int x5), (0, .ref bs), (1, .ref (b 0)), (2, .ref (bm 0)), (3, .ref q1), (4, .ref q2)] → KI g (AL s) s (LWc g r b bm q1 q2 T M Mm o d J) H locs → W p l e room_1 s m args below meth c H locs (ca + 40) (sa + 3200) Q (F0 m 2968 ls [])) :
    W p l e room_1 s m args below meth c H locs ca sa Q (F0 m 2146 ls []) := by
  refine lv_aload_n C0.1 C0.2.1 dL_law_2146 rfl (lv_at hl 2 rfl) ?_
  refine lv_aload_n C0.1 C0.2.1 dL_law_2147 rfl (lv_at hl 1 rfl) ?_
  refine lv_iload C0.1 C0.2.1 dL_law_2148 (lv_at hl 0 rfl) ?_
  refine lv_iconst (v := 1) C0.1 C0.2.1 dL_law_2150 (by decide) ?_
  refine lv_iadd C0.1 C0.2.1 dL_law_2151 ?_
  refine l_xs C0 hX hI (hi 1 (by decide) (by decide)) dL_law_2152 ?_
  refine lv_aload_n C0.1 C0.2.1 dL_law_2153 rfl (lv_at hl 4 rfl) ?_
  obtain ⟨q0, v, Mm1, h1, h2, h3, h5, h6, hRl1⟩ := hS j T M Mm (xs (ix (x5 + 1))) hj hRl
  refine lc_h (As := [.ref (b 0), .int (xs (ix (x5 + 1))), .ref q1]) C0 hC hI (h_croaksFor l hl0 g (J ++ pw 10 (shM g bm) bm Mm) r b H.size n T M q1 q2 o d (xs (ix (x5 + 1))) h1 h3) w_1176 w_1177 w_118 w_1178 ⟨rfl, rfl⟩ hd_L_croaksFor ⟨Nat.le_of_ble_eq_true rfl, Nat.le_of_ble_eq_true rfl⟩ rfl hl.1 rfl (Nat.le_of_ble_eq_true rfl) dL_law_2154 ⟨by show _ ≤ 603072; omega, by show _ ≤ 7174250; omega⟩ (fun H locs hI => ?_)
  refine lv_istore (lv' := [(6, .int (cx [2] q0)), (5, .int x5), (0, .ref bs), (1, .ref (b 0)), (2, .ref (bm 0)), (3, .ref q1), (4, .ref q2)]) C0.1 C0.2.1 dL_law_2157 hl (by decide) rfl (fun ls hl => ?_)
  refine lv_aload_n C0.1 C0.2.1 dL_law_2159 rfl (lv_at hl 4 rfl) ?_
  refine lv_aload_n C0.1 C0.2.1 dL_law_2160 rfl (lv_at hl 2 rfl) ?_
  refine lv_iload C0.1 C0.2.1 dL_law_2161 (lv_at hl 1 rfl) ?_
  refine lv_iconst (v := 1) C0.1 C0.2.1 dL_law_2163 (by decide) ?_
  refine lv_iadd C0.1 C0.2.1 dL_law_2164 ?_
  refine l_xs C0 hX hI (hi 1 (by decide) (by decide)) dL_law_2165 ?_
  refine lm_i (As := [.int (xs (ix (x5 + 1)))]) C0 hC hI (c_X10_croaksFor l g (xb g r T ++ (outs g q1 q2 (ou ciI o q0) d ++ J) ++ pw 372 (shI g r b) b M) bm H.size n Mm (xs (ix (x5 + 1))) h2) w_2052 w_2053 w_2054 w_132 w_2055 ⟨rfl, rfl⟩ hd_X10_croaksFor ⟨Nat.le_of_ble_eq_true rfl, Nat.le_of_ble_eq_true rfl⟩ rfl rfl hl.1 rfl (Nat.le_of_ble_eq_true rfl) dL_law_2166 ⟨by show _ ≤ 603072; omega, by show _ ≤ 7174250; omega⟩ (fun H locs hI => ?_)
  refine lv_istore (lv' := [(7, .int v), (6, .int (cx [2] q0)), (5, .int x5), (0, .ref bs), (1, .ref (b 0)), (2, .ref (bm 0)), (3, .ref q1), (4, .ref q2)]) C0.1 C0.2.1 dL_law_2169 hl (by decide) rfl (fun ls hl => ?_)
  refine lv_aload_n C0.1 C0.2.1 dL_law_2171 rfl (lv_at hl 5 rfl) ?_
  refine lm_i (As := []) C0 hC hI (c_X10_thrown l g (xb g r T ++ (outs g q1 q2 (ou ciI o q0) d ++ J) ++ pw 372 (shI g r b) b M) bm H.size n Mm1 rfl) w_1752 w_1753 w_1754 w_132 w_1755 ⟨rfl, rfl⟩ hd_X10_thrown ⟨Nat.le_of_ble_eq_true rfl, Nat.le_of_ble_eq_true rfl⟩ rfl rfl hl.1 rfl (Nat.le_of_ble_eq_true rfl) dL_law_2172 ⟨by show _ ≤ 603072; omega, by show _ ≤ 7174250; omega⟩ (fun H locs hI => ?_)
  refine lv_iload C0.1 C0.2.1 dL_law_2175 (lv_at hl 1 rfl) ?_
  refine lv_icmp_eq (tgt := 2182) C0.1 C0.2.1 dL_law_2177 (by decide) (fun _ => ?_) (fun z => absurd h5 z)
  refine lv_iload C0.1 C0.2.1 dL_law_2182 (lv_at hl 1 rfl) ?_
  refine lv_if_ne (tgt := 2199) C0.1 C0.2.1 dL_law_2184 (by decide) (fun cz => ?_) (fun cz => ?_)
  · skip
    refine lv_goto (tgt := 2968) C0.1 C0.2.1 dL_law_2199 (by decide) ?_
    refine W.widen (k := ca + 40) (n := sa + 3200) (by omega) (by omega) ?_
    exact kk r T M Mm1 (ou ciI o q0) d J H locs ls hRl1 (lv_sub hl [2, 3, 4, 5, 6, 7] rfl) hI
  · obtain ⟨w, hw⟩ := cx_0 (by decide) cz
    refine lv_aload_n C0.1 C0.2.1 dL_law_2187 rfl (lv_at hl 6 rfl) ?_
    refine lv_iconst (v := 0) C0.1 C0.2.1 dL_law_2188 (by decide) ?_
    refine lc_lald C0 hC hI dL_law_2189 ?_
    rw [our (f := ciI) hw, updL0]
    refine lv_iload C0.1 C0.2.1 dL_law_2190 (lv_at hl 0 rfl) ?_
    refine lv_i2l C0.1 C0.2.1 dL_law_2192 rfl ?_
    refine W.lcmp C0.1 C0.2.1 dL_law_2193 ?_
    rw [show ciI w = v.toInt64 from by rw [h6 w hw], lg_eq]
    refine lv_if_eq (tgt := 2199) C0.1 C0.2.1 dL_law_2194 (by decide) (fun _ => ?_) (fun z => absurd rfl z)
    refine lv_goto (tgt := 2968) C0.1 C0.2.1 dL_law_2199 (by decide) ?_
    refine W.widen (k := ca + 40) (n := sa + 3200) (by omega) (by omega) ?_
    exact kk r T M Mm1 (ou ciI o q0) d J H locs ls hRl1 (lv_sub hl [2, 3, 4, 5, 6, 7] rfl) hI

def SC_croaksForByPonds (n : Nat) (Rl : Nat → Mem → Mem → Mem → Prop) : Prop := ∀ (j : Nat) (T M Mm : Mem) (x1 : Int32), j < 512 → Rl j T M Mm → ∃ (q0 : RX Int32) (v : Int32) (Mm' : Mem), F_X9_croaksForByPonds n x1 M = some q0 ∧ F_X10_croaksForByPonds n x1 Mm = some (v, Mm') ∧ (∀ k, q0 = .inl k → k = 2) ∧ Mm' 0 0 = cx [2] q0 ∧ (∀ w, q0 = .inr w → w = v) ∧ Rl (j + 1) T M Mm'
set_option maxHeartbeats 4000000 in
theorem law_croaksForByPonds {p : Program} {l : Launch} (hl0 : l.stackTraces = false) {e : Env} {s : State} {m : MethodId} {args : Array Value} {below : List Frame} {meth : Method} {c : Code} {Q : State → Prop} (C0 : CallFix p m c code 9 s args LWg RL) {g : GG} (hC : CC g (AL s) s) {bs L : Nat} {xs : Nat → Int32} (hX : LX bs L xs s) {b bm : Nat → Nat} {q1 q2 n j ca sa : Nat} (hca : ca + 40 ≤ 603072) (hsa : sa + 3200 ≤ 7174250) {x5 : Int32} (hi : ∀ k : Int32, 0 ≤ k → k ≤ 4 → vp_in (x5 + k) L) (hj : j < 512) {Rl : Nat → Mem → Mem → Mem → Prop} (hS : SC_croaksForByPonds n Rl)
    {r : Nat → Nat} {T M Mm : Mem} {o : Nat → Int64} {d : Nat → UInt64} {J : va_W} (hRl : Rl j T M Mm) {H : Heap} {locs : List Loc} {ls : Array Slot} (hl : lv_has ls 9 [(5, .int x5), (0, .ref bs), (1, .ref (b 0)), (2, .ref (bm 0)), (3, .ref q1), (4, .ref q2)]) (hI : KI g (AL s) s (LWc g r b bm q1 q2 T M Mm o d J) H locs)
    (kk : ∀ (r : Nat → Nat) (T M Mm : Mem) (o : Nat → Int64) (d : Nat → UInt64) (J : va_W) (H : Heap) (locs : List Loc) (ls : Array Slot), Rl (j + 1) T M Mm → lv_has ls 9 [(5, .int x5), (0, .ref bs), (1, .ref (b 0)), (2, .ref (bm 0)), (3, .ref q1), (4, .ref q2)] → KI g (AL s) s (LWc g r b bm q1 q2 T M Mm o d J) H locs → W p l e room_1 s m args below meth c H locs (ca + 40) (sa + 3200) Q (F0 m 2968 ls [])) :
    W p l e room_1 s m args below meth c H locs ca sa Q (F0 m 2202 ls []) := by
  refine lv_aload_n C0.1 C0.2.1 dL_law_2202 rfl (lv_at hl 2 rfl) ?_
  refine lv_aload_n C0.1 C0.2.1 dL_law_2203 rfl (lv_at hl 1 rfl) ?_
  refine lv_iload C0.1 C0.2.1 dL_law_2204 (lv_at hl 0 rfl) ?_
  refine lv_iconst (v := 1) C0.1 C0.2.1 dL_law_2206 (by decide) ?_
  refine lv_iadd C0.1 C0.2.1 dL_law_2207 ?_
  refine l_xs C0 hX hI (hi 1 (by decide) (by decide)) dL_law_2208 ?_
  refine lv_aload_n C0.1 C0.2.1 dL_law_2209 rfl (lv_at hl 4 rfl) ?_
  obtain ⟨q0, v, Mm1, h1, h2, h3, h5, h6, hRl1⟩ := hS j T M Mm (xs (ix (x5 + 1))) hj hRl
  refine lc_h (As := [.ref (b 0), .int (xs (ix (x5 + 1))), .ref q1]) C0 hC hI (h_croaksForByPonds l hl0 g (J ++ pw 10 (shM g bm) bm Mm) r b H.size n T M q1 q2 o d (xs (ix (x5 + 1))) h1 h3) w_1180 w_1181 w_118 w_1182 ⟨rfl, rfl⟩ hd_L_croaksForByPonds ⟨Nat.le_of_ble_eq_true rfl, Nat.le_of_ble_eq_true rfl⟩ rfl hl.1 rfl (Nat.le_of_ble_eq_true rfl) dL_law_2210 ⟨by show _ ≤ 603072; omega, by show _ ≤ 7174250; omega⟩ (fun H locs hI => ?_)
  refine lv_istore (lv' := [(6, .int (cx [2] q0)), (5, .int x5), (0, .ref bs), (1, .ref (b 0)), (2, .ref (bm 0)), (3, .ref q1), (4, .ref q2)]) C0.1 C0.2.1 dL_law_2213 hl (by decide) rfl (fun ls hl => ?_)
  refine lv_aload_n C0.1 C0.2.1 dL_law_2215 rfl (lv_at hl 4 rfl) ?_
  refine lv_aload_n C0.1 C0.2.1 dL_law_2216 rfl (lv_at hl 2 rfl) ?_
  refine lv_iload C0.1 C0.2.1 dL_law_2217 (lv_at hl 1 rfl) ?_
  refine lv_iconst (v := 1) C0.1 C0.2.1 dL_law_2219 (by decide) ?_
  refine lv_iadd C0.1 C0.2.1 dL_law_2220 ?_
  refine l_xs C0 hX hI (hi 1 (by decide) (by decide)) dL_law_2221 ?_
  refine lm_i (As := [.int (xs (ix (x5 + 1)))]) C0 hC hI (c_X10_croaksForByPonds l g (xb g r T ++ (outs g q1 q2 (ou ciI o q0) d ++ J) ++ pw 372 (shI g r b) b M) bm H.size n Mm (xs (ix (x5 + 1))) h2) w_2060 w_2061 w_2062 w_132 w_2063 ⟨rfl, rfl⟩ hd_X10_croaksForByPonds ⟨Nat.le_of_ble_eq_true rfl, Nat.le_of_ble_eq_true rfl⟩ rfl rfl hl.1 rfl (Nat.le_of_ble_eq_true rfl) dL_law_2222 ⟨by show _ ≤ 603072; omega, by show _ ≤ 7174250; omega⟩ (fun H locs hI => ?_)
  refine lv_istore (lv' := [(7, .int v), (6, .int (cx [2] q0)), (5, .int x5), (0, .ref bs), (1, .ref (b 0)), (2, .ref (bm 0)), (3, .ref q1), (4, .ref q2)]) C0.1 C0.2.1 dL_law_2225 hl (by decide) rfl (fun ls hl => ?_)
  refine lv_aload_n C0.1 C0.2.1 dL_law_2227 rfl (lv_at hl 5 rfl) ?_
  refine lm_i (As := []) C0 hC hI (c_X10_thrown l g (xb g r T ++ (outs g q1 q2 (ou ciI o q0) d ++ J) ++ pw 372 (shI g r b) b M) bm H.size n Mm1 rfl) w_1752 w_1753 w_1754 w_132 w_1755 ⟨rfl, rfl⟩ hd_X10_thrown ⟨Nat.le_of_ble_eq_true rfl, Nat.le_of_ble_eq_true rfl⟩ rfl rfl hl.1 rfl (Nat.le_of_ble_eq_true rfl) dL_law_2228 ⟨by show _ ≤ 603072; omega, by show _ ≤ 7174250; omega⟩ (fun H locs hI => ?_)
  refine lv_iload C0.1 C0.2.1 dL_law_2231 (lv_at hl 1 rfl) ?_
  refine lv_icmp_eq (tgt := 2238) C0.1 C0.2.1 dL_law_2233 (by decide) (fun _ => ?_) (fun z => absurd h5 z)
  refine lv_iload C0.1 C0.2.1 dL_law_2238 (lv_at hl 1 rfl) ?_
  refine lv_if_ne (tgt := 2255) C0.1 C0.2.1 dL_law_2240 (by decide) (fun cz => ?_) (fun cz => ?_)
  · skip
    refine lv_goto (tgt := 2968) C0.1 C0.2.1 dL_law_2255 (by decide) ?_
    refine W.widen (k := ca + 40) (n := sa + 3200) (by omega) (by omega) ?_
    exact kk r T M Mm1 (ou ciI o q0) d J H locs ls hRl1 (lv_sub hl [2, 3, 4, 5, 6, 7] rfl) hI
  · obtain ⟨w, hw⟩ := cx_0 (by decide) cz
    refine lv_aload_n C0.1 C0.2.1 dL_law_2243 rfl (lv_at hl 6 rfl) ?_
    refine lv_iconst (v := 0) C0.1 C0.2.1 dL_law_2244 (by decide) ?_
    refine lc_lald C0 hC hI dL_law_2245 ?_
    rw [our (f := ciI) hw, updL0]
    refine lv_iload C0.1 C0.2.1 dL_law_2246 (lv_at hl 0 rfl) ?_
    refine lv_i2l C0.1 C0.2.1 dL_law_2248 rfl ?_
    refine W.lcmp C0.1 C0.2.1 dL_law_2249 ?_
    rw [show ciI w = v.toInt64 from by rw [h6 w hw], lg_eq]
    refine lv_if_eq (tgt := 2255) C0.1 C0.2.1 dL_law_2250 (by decide) (fun _ => ?_) (fun z => absurd rfl z)
    refine lv_goto (tgt := 2968) C0.1 C0.2.1 dL_law_2255 (by decide) ?_
    refine W.widen (k := ca + 40) (n := sa + 3200) (by omega) (by omega) ?_
    exact kk r T M Mm1 (ou ciI o q0) d J H locs ls hRl1 (lv_sub hl [2, 3, 4, 5, 6, 7] rfl) hI

def SC_croaksAgainst (n : Nat) (Rl : Nat → Mem → Mem → Mem → Prop) : Prop := ∀ (j : Nat) (T M Mm : Mem) (x1 : Int32), j < 512 → Rl j T M Mm → ∃ (q0 : RX Int32) (v : Int32) (Mm' : Mem), F_X9_croaksAgainst n x1 M = some q0 ∧ F_X10_croaksAgainst n x1 Mm = some (v, Mm') ∧ (∀ k, q0 = .inl k → k = 2) ∧ Mm' 0 0 = cx [2] q0 ∧ (∀ w, q0 = .inr w → w = v) ∧ Rl (j + 1) T M Mm'
set_option maxHeartbeats 4000000 in
theorem law_croaksAgainst {p : Program} {l : Launch} (hl0 : l.stackTraces = false) {e : Env} {s : State} {m : MethodId} {args : Array Value} {below : List Frame} {meth : Method} {c : Code} {Q : State → Prop} (C0 : CallFix p m c code 9 s args LWg RL) {g : GG} (hC : CC g (AL s) s) {bs L : Nat} {xs : Nat → Int32} (hX : LX bs L xs s) {b bm : Nat → Nat} {q1 q2 n j ca sa : Nat} (hca : ca + 40 ≤ 603072) (hsa : sa + 3200 ≤ 7174250) {x5 : Int32} (hi : ∀ k : Int32, 0 ≤ k → k ≤ 4 → vp_in (x5 + k) L) (hj : j < 512) {Rl : Nat → Mem → Mem → Mem → Prop} (hS : SC_croaksAgainst n Rl)
    {r : Nat → Nat} {T M Mm : Mem} {o : Nat → Int64} {d : Nat → UInt64} {J : va_W} (hRl : Rl j T M Mm) {H : Heap} {locs : List Loc} {ls : Array Slot} (hl : lv_has ls 9 [(5, .int x5), (0, .ref bs), (1, .ref (b 0)), (2, .ref (bm 0)), (3, .ref q1), (4, .ref q2)]) (hI : KI g (AL s) s (LWc g r b bm q1 q2 T M Mm o d J) H locs)
    (kk : ∀ (r : Nat → Nat) (T M Mm : Mem) (o : Nat → Int64) (d : Nat → UInt64) (J : va_W) (H : Heap) (locs : List Loc) (ls : Array Slot), Rl (j + 1) T M Mm → lv_has ls 9 [(5, .int x5), (0, .ref bs), (1, .ref (b 0)), (2, .ref (bm 0)), (3, .ref q1), (4, .ref q2)] → KI g (AL s) s (LWc g r b bm q1 q2 T M Mm o d J) H locs → W p l e room_1 s m args below meth c H locs (ca + 40) (sa + 3200) Q (F0 m 2968 ls [])) :
    W p l e room_1 s m args below meth c H locs ca sa Q (F0 m 2258 ls []) := by
  refine lv_aload_n C0.1 C0.2.1 dL_law_2258 rfl (lv_at hl 2 rfl) ?_
  refine lv_aload_n C0.1 C0.2.1 dL_law_2259 rfl (lv_at hl 1 rfl) ?_
  refine lv_iload C0.1 C0.2.1 dL_law_2260 (lv_at hl 0 rfl) ?_
  refine lv_iconst (v := 1) C0.1 C0.2.1 dL_law_2262 (by decide) ?_
  refine lv_iadd C0.1 C0.2.1 dL_law_2263 ?_
  refine l_xs C0 hX hI (hi 1 (by decide) (by decide)) dL_law_2264 ?_
  refine lv_aload_n C0.1 C0.2.1 dL_law_2265 rfl (lv_at hl 4 rfl) ?_
  obtain ⟨q0, v, Mm1, h1, h2, h3, h5, h6, hRl1⟩ := hS j T M Mm (xs (ix (x5 + 1))) hj hRl
  refine lc_h (As := [.ref (b 0), .int (xs (ix (x5 + 1))), .ref q1]) C0 hC hI (h_croaksAgainst l hl0 g (J ++ pw 10 (shM g bm) bm Mm) r b H.size n T M q1 q2 o d (xs (ix (x5 + 1))) h1 h3) w_1184 w_1185 w_118 w_1186 ⟨rfl, rfl⟩ hd_L_croaksAgainst ⟨Nat.le_of_ble_eq_true rfl, Nat.le_of_ble_eq_true rfl⟩ rfl hl.1 rfl (Nat.le_of_ble_eq_true rfl) dL_law_2266 ⟨by show _ ≤ 603072; omega, by show _ ≤ 7174250; omega⟩ (fun H locs hI => ?_)
  refine lv_istore (lv' := [(6, .int (cx [2] q0)), (5, .int x5), (0, .ref bs), (1, .ref (b 0)), (2, .ref (bm 0)), (3, .ref q1), (4, .ref q2)]) C0.1 C0.2.1 dL_law_2269 hl (by decide) rfl (fun ls hl => ?_)
  refine lv_aload_n C0.1 C0.2.1 dL_law_2271 rfl (lv_at hl 4 rfl) ?_
  refine lv_aload_n C0.1 C0.2.1 dL_law_2272 rfl (lv_at hl 2 rfl) ?_
  refine lv_iload C0.1 C0.2.1 dL_law_2273 (lv_at hl 1 rfl) ?_
  refine lv_iconst (v := 1) C0.1 C0.2.1 dL_law_2275 (by decide) ?_
  refine lv_iadd C0.1 C0.2.1 dL_law_2276 ?_
  refine l_xs C0 hX hI (hi 1 (by decide) (by decide)) dL_law_2277 ?_
  refine lm_i (As := [.int (xs (ix (x5 + 1)))]) C0 hC hI (c_X10_croaksAgainst l g (xb g r T ++ (outs g q1 q2 (ou ciI o q0) d ++ J) ++ pw 372 (shI g r b) b M) bm H.size n Mm (xs (ix (x5 + 1))) h2) w_2064 w_2065 w_2066 w_132 w_2067 ⟨rfl, rfl⟩ hd_X10_croaksAgainst ⟨Nat.le_of_ble_eq_true rfl, Nat.le_of_ble_eq_true rfl⟩ rfl rfl hl.1 rfl (Nat.le_of_ble_eq_true rfl) dL_law_2278 ⟨by show _ ≤ 603072; omega, by show _ ≤ 7174250; omega⟩ (fun H locs hI => ?_)
  refine lv_istore (lv' := [(7, .int v), (6, .int (cx [2] q0)), (5, .int x5), (0, .ref bs), (1, .ref (b 0)), (2, .ref (bm 0)), (3, .ref q1), (4, .ref q2)]) C0.1 C0.2.1 dL_law_2281 hl (by decide) rfl (fun ls hl => ?_)
  refine lv_aload_n C0.1 C0.2.1 dL_law_2283 rfl (lv_at hl 5 rfl) ?_
  refine lm_i (As := []) C0 hC hI (c_X10_thrown l g (xb g r T ++ (outs g q1 q2 (ou ciI o q0) d ++ J) ++ pw 372 (shI g r b) b M) bm H.size n Mm1 rfl) w_1752 w_1753 w_1754 w_132 w_1755 ⟨rfl, rfl⟩ hd_X10_thrown ⟨Nat.le_of_ble_eq_true rfl, Nat.le_of_ble_eq_true rfl⟩ rfl rfl hl.1 rfl (Nat.le_of_ble_eq_true rfl) dL_law_2284 ⟨by show _ ≤ 603072; omega, by show _ ≤ 7174250; omega⟩ (fun H locs hI => ?_)
  refine lv_iload C0.1 C0.2.1 dL_law_2287 (lv_at hl 1 rfl) ?_
  refine lv_icmp_eq (tgt := 2294) C0.1 C0.2.1 dL_law_2289 (by decide) (fun _ => ?_) (fun z => absurd h5 z)
  refine lv_iload C0.1 C0.2.1 dL_law_2294 (lv_at hl 1 rfl) ?_
  refine lv_if_ne (tgt := 2311) C0.1 C0.2.1 dL_law_2296 (by decide) (fun cz => ?_) (fun cz => ?_)
  · skip
    refine lv_goto (tgt := 2968) C0.1 C0.2.1 dL_law_2311 (by decide) ?_
    refine W.widen (k := ca + 40) (n := sa + 3200) (by omega) (by omega) ?_
    exact kk r T M Mm1 (ou ciI o q0) d J H locs ls hRl1 (lv_sub hl [2, 3, 4, 5, 6, 7] rfl) hI
  · obtain ⟨w, hw⟩ := cx_0 (by decide) cz
    refine lv_aload_n C0.1 C0.2.1 dL_law_2299 rfl (lv_at hl 6 rfl) ?_
    refine lv_iconst (v := 0) C0.1 C0.2.1 dL_law_2300 (by decide) ?_
    refine lc_lald C0 hC hI dL_law_2301 ?_
    rw [our (f := ciI) hw, updL0]
    refine lv_iload C0.1 C0.2.1 dL_law_2302 (lv_at hl 0 rfl) ?_
    refine lv_i2l C0.1 C0.2.1 dL_law_2304 rfl ?_
    refine W.lcmp C0.1 C0.2.1 dL_law_2305 ?_
    rw [show ciI w = v.toInt64 from by rw [h6 w hw], lg_eq]
    refine lv_if_eq (tgt := 2311) C0.1 C0.2.1 dL_law_2306 (by decide) (fun _ => ?_) (fun z => absurd rfl z)
    refine lv_goto (tgt := 2968) C0.1 C0.2.1 dL_law_2311 (by decide) ?_
    refine W.widen (k := ca + 40) (n := sa + 3200) (by omega) (by omega) ?_
    exact kk r T M Mm1 (ou ciI o q0) d J H locs ls hRl1 (lv_sub hl [2, 3, 4, 5, 6, 7] rfl) hI

def SC_strongestFrog (n : Nat) (Rl : Nat → Mem → Mem → Mem → Prop) : Prop := ∀ (j : Nat) (T M Mm : Mem) (x1 : Int32), j < 512 → Rl j T M Mm → ∃ (q0 : RX Int32) (v : Int32) (Mm' : Mem), F_X9_strongestFrog n x1 M = some q0 ∧ F_X10_strongestFrog n x1 Mm = some (v, Mm') ∧ (∀ k, q0 = .inl k → k = 2 ∨ k = 5) ∧ Mm' 0 0 = cx [2, 5] q0 ∧ (∀ w, q0 = .inr w → w = v) ∧ Rl (j + 1) T M Mm'
set_option maxHeartbeats 4000000 in
theorem law_strongestFrog {p : Program} {l : Launch} (hl0 : l.stackTraces = false) {e : Env} {s : State} {m : MethodId} {args : Array Value} {below : List Frame} {meth : Method} {c : Code} {Q : State → Prop} (C0 : CallFix p m c code 9 s args LWg RL) {g : GG} (hC : CC g (AL s) s) {bs L : Nat} {xs : Nat → Int32} (hX : LX bs L xs s) {b bm : Nat → Nat} {q1 q2 n j ca sa : Nat} (hca : ca + 40 ≤ 603072) (hsa : sa + 3200 ≤ 7174250) {x5 : Int32} (hi : ∀ k : Int32, 0 ≤ k → k ≤ 4 → vp_in (x5 + k) L) (hj : j < 512) {Rl : Nat → Mem → Mem → Mem → Prop} (hS : SC_strongestFrog n Rl)
    {r : Nat → Nat} {T M Mm : Mem} {o : Nat → Int64} {d : Nat → UInt64} {J : va_W} (hRl : Rl j T M Mm) {H : Heap} {locs : List Loc} {ls : Array Slot} (hl : lv_has ls 9 [(5, .int x5), (0, .ref bs), (1, .ref (b 0)), (2, .ref (bm 0)), (3, .ref q1), (4, .ref q2)]) (hI : KI g (AL s) s (LWc g r b bm q1 q2 T M Mm o d J) H locs)
    (kk : ∀ (r : Nat → Nat) (T M Mm : Mem) (o : Nat → Int64) (d : Nat → UInt64) (J : va_W) (H : Heap) (locs : List Loc) (ls : Array Slot), Rl (j + 1) T M Mm → lv_has ls 9 [(5, .int x5), (0, .ref bs), (1, .ref (b 0)), (2, .ref (bm 0)), (3, .ref q1), (4, .ref q2)] → KI g (AL s) s (LWc g r b bm q1 q2 T M Mm o d J) H locs → W p l e room_1 s m args below meth c H locs (ca + 40) (sa + 3200) Q (F0 m 2968 ls [])) :
    W p l e room_1 s m args below meth c H locs ca sa Q (F0 m 2314 ls []) := by
  refine lv_aload_n C0.1 C0.2.1 dL_law_2314 rfl (lv_at hl 2 rfl) ?_
  refine lv_aload_n C0.1 C0.2.1 dL_law_2315 rfl (lv_at hl 1 rfl) ?_
  refine lv_iload C0.1 C0.2.1 dL_law_2316 (lv_at hl 0 rfl) ?_
  refine lv_iconst (v := 1) C0.1 C0.2.1 dL_law_2318 (by decide) ?_
  refine lv_iadd C0.1 C0.2.1 dL_law_2319 ?_
  refine l_xs C0 hX hI (hi 1 (by decide) (by decide)) dL_law_2320 ?_
  refine lv_aload_n C0.1 C0.2.1 dL_law_2321 rfl (lv_at hl 4 rfl) ?_
  obtain ⟨q0, v, Mm1, h1, h2, h3, h5, h6, hRl1⟩ := hS j T M Mm (xs (ix (x5 + 1))) hj hRl
  refine lc_h (As := [.ref (b 0), .int (xs (ix (x5 + 1))), .ref q1]) C0 hC hI (h_strongestFrog l hl0 g (J ++ pw 10 (shM g bm) bm Mm) r b H.size n T M q1 q2 o d (xs (ix (x5 + 1))) h1 h3) w_1191 w_1192 w_118 w_1193 ⟨rfl, rfl⟩ hd_L_strongestFrog ⟨Nat.le_of_ble_eq_true rfl, Nat.le_of_ble_eq_true rfl⟩ rfl hl.1 rfl (Nat.le_of_ble_eq_true rfl) dL_law_2322 ⟨by show _ ≤ 603072; omega, by show _ ≤ 7174250; omega⟩ (fun H locs hI => ?_)
  refine lv_istore (lv' := [(6, .int (cx [2, 5] q0)), (5, .int x5), (0, .ref bs), (1, .ref (b 0)), (2, .ref (bm 0)), (3, .ref q1), (4, .ref q2)]) C0.1 C0.2.1 dL_law_2325 hl (by decide) rfl (fun ls hl => ?_)
  refine lv_aload_n C0.1 C0.2.1 dL_law_2327 rfl (lv_at hl 4 rfl) ?_
  refine lv_aload_n C0.1 C0.2.1 dL_law_2328 rfl (lv_at hl 2 rfl) ?_
  refine lv_iload C0.1 C0.2.1 dL_law_2329 (lv_at hl 1 rfl) ?_
  refine lv_iconst (v := 1) C0.1 C0.2.1 dL_law_2331 (by decide) ?_
  refine lv_iadd C0.1 C0.2.1 dL_law_2332 ?_
  refine l_xs C0 hX hI (hi 1 (by decide) (by decide)) dL_law_2333 ?_
  refine lm_i (As := [.int (xs (ix (x5 + 1)))]) C0 hC hI (c_X10_strongestFrog l g (xb g r T ++ (outs g q1 q2 (ou ciI o q0) d ++ J) ++ pw 372 (shI g r b) b M) bm H.size n Mm (xs (ix (x5 + 1))) h2) w_2068 w_2069 w_2070 w_132 w_2071 ⟨rfl, rfl⟩ hd_X10_strongestFrog ⟨Nat.le_of_ble_eq_true rfl, Nat.le_of_ble_eq_true rfl⟩ rfl rfl hl.1 rfl (Nat.le_of_ble_eq_true rfl) dL_law_2334 ⟨by show _ ≤ 603072; omega, by show _ ≤ 7174250; omega⟩ (fun H locs hI => ?_)
  refine lv_istore (lv' := [(7, .int v), (6, .int (cx [2, 5] q0)), (5, .int x5), (0, .ref bs), (1, .ref (b 0)), (2, .ref (bm 0)), (3, .ref q1), (4, .ref q2)]) C0.1 C0.2.1 dL_law_2337 hl (by decide) rfl (fun ls hl => ?_)
  refine lv_aload_n C0.1 C0.2.1 dL_law_2339 rfl (lv_at hl 5 rfl) ?_
  refine lm_i (As := []) C0 hC hI (c_X10_thrown l g (xb g r T ++ (outs g q1 q2 (ou ciI o q0) d ++ J) ++ pw 372 (shI g r b) b M) bm H.size n Mm1 rfl) w_1752 w_1753 w_1754 w_132 w_1755 ⟨rfl, rfl⟩ hd_X10_thrown ⟨Nat.le_of_ble_eq_true rfl, Nat.le_of_ble_eq_true rfl⟩ rfl rfl hl.1 rfl (Nat.le_of_ble_eq_true rfl) dL_law_2340 ⟨by show _ ≤ 603072; omega, by show _ ≤ 7174250; omega⟩ (fun H locs hI => ?_)
  refine lv_iload C0.1 C0.2.1 dL_law_2343 (lv_at hl 1 rfl) ?_
  refine lv_icmp_eq (tgt := 2350) C0.1 C0.2.1 dL_law_2345 (by decide) (fun _ => ?_) (fun z => absurd h5 z)
  refine lv_iload C0.1 C0.2.1 dL_law_2350 (lv_at hl 1 rfl) ?_
  refine lv_if_ne (tgt := 2367) C0.1 C0.2.1 dL_law_2352 (by decide) (fun cz => ?_) (fun cz => ?_)
  · skip
    refine lv_goto (tgt := 2968) C0.1 C0.2.1 dL_law_2367 (by decide) ?_
    refine W.widen (k := ca + 40) (n := sa + 3200) (by omega) (by omega) ?_
    exact kk r T M Mm1 (ou ciI o q0) d J H locs ls hRl1 (lv_sub hl [2, 3, 4, 5, 6, 7] rfl) hI
  · obtain ⟨w, hw⟩ := cx_0 (by decide) cz
    refine lv_aload_n C0.1 C0.2.1 dL_law_2355 rfl (lv_at hl 6 rfl) ?_
    refine lv_iconst (v := 0) C0.1 C0.2.1 dL_law_2356 (by decide) ?_
    refine lc_lald C0 hC hI dL_law_2357 ?_
    rw [our (f := ciI) hw, updL0]
    refine lv_iload C0.1 C0.2.1 dL_law_2358 (lv_at hl 0 rfl) ?_
    refine lv_i2l C0.1 C0.2.1 dL_law_2360 rfl ?_
    refine W.lcmp C0.1 C0.2.1 dL_law_2361 ?_
    rw [show ciI w = v.toInt64 from by rw [h6 w hw], lg_eq]
    refine lv_if_eq (tgt := 2367) C0.1 C0.2.1 dL_law_2362 (by decide) (fun _ => ?_) (fun z => absurd rfl z)
    refine lv_goto (tgt := 2968) C0.1 C0.2.1 dL_law_2367 (by decide) ?_
    refine W.widen (k := ca + 40) (n := sa + 3200) (by omega) (by omega) ?_
    exact kk r T M Mm1 (ou ciI o q0) d J H locs ls hRl1 (lv_sub hl [2, 3, 4, 5, 6, 7] rfl) hI

def SC_shareFor (n : Nat) (Rl : Nat → Mem → Mem → Mem → Prop) : Prop := ∀ (j : Nat) (T M Mm : Mem) (x1 : Int32), j < 512 → Rl j T M Mm → ∃ (q0 : RX UInt32) (v : UInt32) (Mm' : Mem), F_X9_shareFor n x1 M = some q0 ∧ F_X10_shareFor n x1 Mm = some (v, Mm') ∧ (∀ k, q0 = .inl k → k = 2 ∨ k = 3) ∧ Mm' 0 0 = cx [2, 3] q0 ∧ (∀ w, q0 = .inr w → w = v) ∧ (∀ w, q0 = .inr w → n64 (FP.f2d w) = true ∧ Op.cmpValue (FP.dcmp (FP.f2d w) (FP.f2d w)) .l = 0) ∧ Rl (j + 1) T M Mm'
set_option maxHeartbeats 4000000 in
theorem law_shareFor {p : Program} {l : Launch} (hl0 : l.stackTraces = false) {e : Env} {s : State} {m : MethodId} {args : Array Value} {below : List Frame} {meth : Method} {c : Code} {Q : State → Prop} (C0 : CallFix p m c code 9 s args LWg RL) {g : GG} (hC : CC g (AL s) s) {bs L : Nat} {xs : Nat → Int32} (hX : LX bs L xs s) {b bm : Nat → Nat} {q1 q2 n j ca sa : Nat} (hca : ca + 40 ≤ 603072) (hsa : sa + 3200 ≤ 7174250) {x5 : Int32} (hi : ∀ k : Int32, 0 ≤ k → k ≤ 4 → vp_in (x5 + k) L) (hj : j < 512) {Rl : Nat → Mem → Mem → Mem → Prop} (hS : SC_shareFor n Rl)
    {r : Nat → Nat} {T M Mm : Mem} {o : Nat → Int64} {d : Nat → UInt64} {J : va_W} (hRl : Rl j T M Mm) {H : Heap} {locs : List Loc} {ls : Array Slot} (hl : lv_has ls 9 [(5, .int x5), (0, .ref bs), (1, .ref (b 0)), (2, .ref (bm 0)), (3, .ref q1), (4, .ref q2)]) (hI : KI g (AL s) s (LWc g r b bm q1 q2 T M Mm o d J) H locs)
    (kk : ∀ (r : Nat → Nat) (T M Mm : Mem) (o : Nat → Int64) (d : Nat → UInt64) (J : va_W) (H : Heap) (locs : List Loc) (ls : Array Slot), Rl (j + 1) T M Mm → lv_has ls 9 [(5, .int x5), (0, .ref bs), (1, .ref (b 0)), (2, .ref (bm 0)), (3, .ref q1), (4, .ref q2)] → KI g (AL s) s (LWc g r b bm q1 q2 T M Mm o d J) H locs → W p l e room_1 s m args below meth c H locs (ca + 40) (sa + 3200) Q (F0 m 2968 ls [])) :
    W p l e room_1 s m args below meth c H locs ca sa Q (F0 m 2370 ls []) := by
  refine lv_aload_n C0.1 C0.2.1 dL_law_2370 rfl (lv_at hl 2 rfl) ?_
  refine lv_aload_n C0.1 C0.2.1 dL_law_2371 rfl (lv_at hl 1 rfl) ?_
  refine lv_iload C0.1 C0.2.1 dL_law_2372 (lv_at hl 0 rfl) ?_
  refine lv_iconst (v := 1) C0.1 C0.2.1 dL_law_2374 (by decide) ?_
  refine lv_iadd C0.1 C0.2.1 dL_law_2375 ?_
  refine l_xs C0 hX hI (hi 1 (by decide) (by decide)) dL_law_2376 ?_
  refine lv_aload C0.1 C0.2.1 dL_law_2377 (lv_at hl 5 rfl) ?_
  obtain ⟨q0, v, Mm1, h1, h2, h3, h5, h6, h8, hRl1⟩ := hS j T M Mm (xs (ix (x5 + 1))) hj hRl
  refine lc_h (As := [.ref (b 0), .int (xs (ix (x5 + 1))), .ref q2]) C0 hC hI (h_shareFor l hl0 g (J ++ pw 10 (shM g bm) bm Mm) r b H.size n T M q1 q2 o d (xs (ix (x5 + 1))) h1 h3 (fun w hw => (h8 w hw).1)) w_1199 w_1200 w_118 w_1201 ⟨rfl, rfl⟩ hd_L_shareFor ⟨Nat.le_of_ble_eq_true rfl, Nat.le_of_ble_eq_true rfl⟩ rfl hl.1 rfl (Nat.le_of_ble_eq_true rfl) dL_law_2379 ⟨by show _ ≤ 603072; omega, by show _ ≤ 7174250; omega⟩ (fun H locs hI => ?_)
  refine lv_istore (lv' := [(6, .int (cx [2, 3] q0)), (5, .int x5), (0, .ref bs), (1, .ref (b 0)), (2, .ref (bm 0)), (3, .ref q1), (4, .ref q2)]) C0.1 C0.2.1 dL_law_2382 hl (by decide) rfl (fun ls hl => ?_)
  refine lv_aload_n C0.1 C0.2.1 dL_law_2384 rfl (lv_at hl 4 rfl) ?_
  refine lv_aload_n C0.1 C0.2.1 dL_law_2385 rfl (lv_at hl 2 rfl) ?_
  refine lv_iload C0.1 C0.2.1 dL_law_2386 (lv_at hl 1 rfl) ?_
  refine lv_iconst (v := 1) C0.1 C0.2.1 dL_law_2388 (by decide) ?_
  refine lv_iadd C0.1 C0.2.1 dL_law_2389 ?_
  refine l_xs C0 hX hI (hi 1 (by decide) (by decide)) dL_law_2390 ?_
  refine lm_f (As := [.int (xs (ix (x5 + 1)))]) C0 hC hI (c_X10_shareFor l g (xb g r T ++ (outs g q1 q2 o (od FP.f2d d q0) ++ J) ++ pw 372 (shI g r b) b M) bm H.size n Mm (xs (ix (x5 + 1))) h2) w_2072 w_2073 w_2074 w_132 w_2075 ⟨rfl, rfl⟩ hd_X10_shareFor ⟨Nat.le_of_ble_eq_true rfl, Nat.le_of_ble_eq_true rfl⟩ rfl rfl hl.1 rfl (Nat.le_of_ble_eq_true rfl) dL_law_2391 ⟨by show _ ≤ 603072; omega, by show _ ≤ 7174250; omega⟩ (fun H locs hI => ?_)
  refine lv_fstore (lv' := [(7, .float v), (6, .int (cx [2, 3] q0)), (5, .int x5), (0, .ref bs), (1, .ref (b 0)), (2, .ref (bm 0)), (3, .ref q1), (4, .ref q2)]) C0.1 C0.2.1 dL_law_2394 hl (by decide) rfl (fun ls hl => ?_)
  refine lv_aload_n C0.1 C0.2.1 dL_law_2396 rfl (lv_at hl 5 rfl) ?_
  refine lm_i (As := []) C0 hC hI (c_X10_thrown l g (xb g r T ++ (outs g q1 q2 o (od FP.f2d d q0) ++ J) ++ pw 372 (shI g r b) b M) bm H.size n Mm1 rfl) w_1752 w_1753 w_1754 w_132 w_1755 ⟨rfl, rfl⟩ hd_X10_thrown ⟨Nat.le_of_ble_eq_true rfl, Nat.le_of_ble_eq_true rfl⟩ rfl rfl hl.1 rfl (Nat.le_of_ble_eq_true rfl) dL_law_2397 ⟨by show _ ≤ 603072; omega, by show _ ≤ 7174250; omega⟩ (fun H locs hI => ?_)
  refine lv_iload C0.1 C0.2.1 dL_law_2400 (lv_at hl 1 rfl) ?_
  refine lv_icmp_eq (tgt := 2407) C0.1 C0.2.1 dL_law_2402 (by decide) (fun _ => ?_) (fun z => absurd h5 z)
  refine lv_iload C0.1 C0.2.1 dL_law_2407 (lv_at hl 1 rfl) ?_
  refine lv_if_ne (tgt := 2445) C0.1 C0.2.1 dL_law_2409 (by decide) (fun cz => ?_) (fun cz => ?_)
  · skip
    refine lv_goto (tgt := 2968) C0.1 C0.2.1 dL_law_2445 (by decide) ?_
    refine W.widen (k := ca + 40) (n := sa + 3200) (by omega) (by omega) ?_
    exact kk r T M Mm1 o (od FP.f2d d q0) J H locs ls hRl1 (lv_sub hl [2, 3, 4, 5, 6, 7] rfl) hI
  · obtain ⟨w, hw⟩ := cx_0 (by decide) cz
    refine lv_aload C0.1 C0.2.1 dL_law_2412 (lv_at hl 7 rfl) ?_
    refine lv_iconst (v := 0) C0.1 C0.2.1 dL_law_2414 (by decide) ?_
    refine lc_dald C0 hC hI dL_law_2415 ?_
    rw [odr (f := FP.f2d) hw, vfu0]
    refine lv_fload C0.1 C0.2.1 dL_law_2416 (lv_at hl 0 rfl) ?_
    refine lv_f2d C0.1 C0.2.1 dL_law_2418 (n64_n (by rw [← h6 _ hw]; exact (h8 _ hw).1)) ?_
    refine lv_dcmp C0.1 C0.2.1 dL_law_2419 ?_
    rw [show v = w from (h6 w hw).symm, (h8 w hw).2]
    refine lv_if_eq (tgt := 2445) C0.1 C0.2.1 dL_law_2420 (by decide) (fun _ => ?_) (fun z => absurd rfl z)
    refine lv_goto (tgt := 2968) C0.1 C0.2.1 dL_law_2445 (by decide) ?_
    refine W.widen (k := ca + 40) (n := sa + 3200) (by omega) (by omega) ?_
    exact kk r T M Mm1 o (od FP.f2d d q0) J H locs ls hRl1 (lv_sub hl [2, 3, 4, 5, 6, 7] rfl) hI

def SC_speechTotal (n : Nat) (Rl : Nat → Mem → Mem → Mem → Prop) : Prop := ∀ (j : Nat) (T M Mm : Mem), j < 512 → Rl j T M Mm → ∃ (v : Int32) (Mm' : Mem), F_X9_speechTotal n M = some v ∧ F_X10_speechTotal n Mm = some (v, Mm') ∧ Rl (j + 1) T M Mm'
set_option maxHeartbeats 4000000 in
theorem law_speechTotal {p : Program} {l : Launch} (hl0 : l.stackTraces = false) {e : Env} {s : State} {m : MethodId} {args : Array Value} {below : List Frame} {meth : Method} {c : Code} {Q : State → Prop} (C0 : CallFix p m c code 9 s args LWg RL) {g : GG} (hC : CC g (AL s) s) {bs L : Nat} {xs : Nat → Int32} (hX : LX bs L xs s) {b bm : Nat → Nat} {q1 q2 n j ca sa : Nat} (hca : ca + 40 ≤ 603072) (hsa : sa + 3200 ≤ 7174250) {x5 : Int32} (hi : ∀ k : Int32, 0 ≤ k → k ≤ 4 → vp_in (x5 + k) L) (hj : j < 512) {Rl : Nat → Mem → Mem → Mem → Prop} (hS : SC_speechTotal n Rl)
    {r : Nat → Nat} {T M Mm : Mem} {o : Nat → Int64} {d : Nat → UInt64} {J : va_W} (hRl : Rl j T M Mm) {H : Heap} {locs : List Loc} {ls : Array Slot} (hl : lv_has ls 9 [(5, .int x5), (0, .ref bs), (1, .ref (b 0)), (2, .ref (bm 0)), (3, .ref q1), (4, .ref q2)]) (hI : KI g (AL s) s (LWc g r b bm q1 q2 T M Mm o d J) H locs)
    (kk : ∀ (r : Nat → Nat) (T M Mm : Mem) (o : Nat → Int64) (d : Nat → UInt64) (J : va_W) (H : Heap) (locs : List Loc) (ls : Array Slot), Rl (j + 1) T M Mm → lv_has ls 9 [(5, .int x5), (0, .ref bs), (1, .ref (b 0)), (2, .ref (bm 0)), (3, .ref q1), (4, .ref q2)] → KI g (AL s) s (LWc g r b bm q1 q2 T M Mm o d J) H locs → W p l e room_1 s m args below meth c H locs (ca + 40) (sa + 3200) Q (F0 m 2968 ls [])) :
    W p l e room_1 s m args below meth c H locs ca sa Q (F0 m 2448 ls []) := by
  refine lv_aload_n C0.1 C0.2.1 dL_law_2448 rfl (lv_at hl 2 rfl) ?_
  obtain ⟨v, Mm1, h1, h2, hRl1⟩ := hS j T M Mm hj hRl
  refine lc_i (As := []) C0 hC hI (c_X9_speechTotal l g (xb g r T ++ (outs g q1 q2 o d ++ (J ++ pw 10 (shM g bm) bm Mm))) r b H.size n M h1) w_459 w_460 w_461 w_119 w_462 ⟨rfl, rfl⟩ hd_X9_speechTotal ⟨Nat.le_of_ble_eq_true rfl, Nat.le_of_ble_eq_true rfl⟩ rfl rfl hl.1 rfl (Nat.le_of_ble_eq_true rfl) dL_law_2449 ⟨by show _ ≤ 603072; omega, by show _ ≤ 7174250; omega⟩ (fun H locs hI => ?_)
  refine lv_aload_n C0.1 C0.2.1 dL_law_2452 rfl (lv_at hl 3 rfl) ?_
  refine lm_i (As := []) C0 hC hI (c_X10_speechTotal l g (xb g r T ++ (outs g q1 q2 o d ++ J) ++ pw 372 (shI g r b) b M) bm H.size n Mm h2) w_2076 w_2077 w_2078 w_132 w_2079 ⟨rfl, rfl⟩ hd_X10_speechTotal ⟨Nat.le_of_ble_eq_true rfl, Nat.le_of_ble_eq_true rfl⟩ rfl rfl hl.1 rfl (Nat.le_of_ble_eq_true rfl) dL_law_2453 ⟨by show _ ≤ 603072; omega, by show _ ≤ 7174250; omega⟩ (fun H locs hI => ?_)
  refine lv_icmp_eq (tgt := 2968) C0.1 C0.2.1 dL_law_2456 (by decide) (fun _ => ?_) (fun z => absurd rfl z)
  refine W.widen (k := ca + 40) (n := sa + 3200) (by omega) (by omega) ?_
  exact kk r T M Mm1 o d J H locs ls hRl1 (lv_sub hl [0, 1, 2, 3, 4, 5] rfl) hI

def SC_missedTotal (n : Nat) (Rl : Nat → Mem → Mem → Mem → Prop) : Prop := ∀ (j : Nat) (T M Mm : Mem), j < 512 → Rl j T M Mm → ∃ (v : Int32) (Mm' : Mem), F_X9_missedTotal n M = some v ∧ F_X10_missedTotal n Mm = some (v, Mm') ∧ Rl (j + 1) T M Mm'
set_option maxHeartbeats 4000000 in
theorem law_missedTotal {p : Program} {l : Launch} (hl0 : l.stackTraces = false) {e : Env} {s : State} {m : MethodId} {args : Array Value} {below : List Frame} {meth : Method} {c : Code} {Q : State → Prop} (C0 : CallFix p m c code 9 s args LWg RL) {g : GG} (hC : CC g (AL s) s) {bs L : Nat} {xs : Nat → Int32} (hX : LX bs L xs s) {b bm : Nat → Nat} {q1 q2 n j ca sa : Nat} (hca : ca + 40 ≤ 603072) (hsa : sa + 3200 ≤ 7174250) {x5 : Int32} (hi : ∀ k : Int32, 0 ≤ k → k ≤ 4 → vp_in (x5 + k) L) (hj : j < 512) {Rl : Nat → Mem → Mem → Mem → Prop} (hS : SC_missedTotal n Rl)
    {r : Nat → Nat} {T M Mm : Mem} {o : Nat → Int64} {d : Nat → UInt64} {J : va_W} (hRl : Rl j T M Mm) {H : Heap} {locs : List Loc} {ls : Array Slot} (hl : lv_has ls 9 [(5, .int x5), (0, .ref bs), (1, .ref (b 0)), (2, .ref (bm 0)), (3, .ref q1), (4, .ref q2)]) (hI : KI g (AL s) s (LWc g r b bm q1 q2 T M Mm o d J) H locs)
    (kk : ∀ (r : Nat → Nat) (T M Mm : Mem) (o : Nat → Int64) (d : Nat → UInt64) (J : va_W) (H : Heap) (locs : List Loc) (ls : Array Slot), Rl (j + 1) T M Mm → lv_has ls 9 [(5, .int x5), (0, .ref bs), (1, .ref (b 0)), (2, .ref (bm 0)), (3, .ref q1), (4, .ref q2)] → KI g (AL s) s (LWc g r b bm q1 q2 T M Mm o d J) H locs → W p l e room_1 s m args below meth c H locs (ca + 40) (sa + 3200) Q (F0 m 2968 ls [])) :
    W p l e room_1 s m args below meth c H locs ca sa Q (F0 m 2461 ls []) := by
  refine lv_aload_n C0.1 C0.2.1 dL_law_2461 rfl (lv_at hl 2 rfl) ?_
  obtain ⟨v, Mm1, h1, h2, hRl1⟩ := hS j T M Mm hj hRl
  refine lc_i (As := []) C0 hC hI (c_X9_missedTotal l g (xb g r T ++ (outs g q1 q2 o d ++ (J ++ pw 10 (shM g bm) bm Mm))) r b H.size n M h1) w_463 w_464 w_465 w_119 w_466 ⟨rfl, rfl⟩ hd_X9_missedTotal ⟨Nat.le_of_ble_eq_true rfl, Nat.le_of_ble_eq_true rfl⟩ rfl rfl hl.1 rfl (Nat.le_of_ble_eq_true rfl) dL_law_2462 ⟨by show _ ≤ 603072; omega, by show _ ≤ 7174250; omega⟩ (fun H locs hI => ?_)
  refine lv_aload_n C0.1 C0.2.1 dL_law_2465 rfl (lv_at hl 3 rfl) ?_
  refine lm_i (As := []) C0 hC hI (c_X10_missedTotal l g (xb g r T ++ (outs g q1 q2 o d ++ J) ++ pw 372 (shI g r b) b M) bm H.size n Mm h2) w_2080 w_2081 w_2082 w_132 w_2083 ⟨rfl, rfl⟩ hd_X10_missedTotal ⟨Nat.le_of_ble_eq_true rfl, Nat.le_of_ble_eq_true rfl⟩ rfl rfl hl.1 rfl (Nat.le_of_ble_eq_true rfl) dL_law_2466 ⟨by show _ ≤ 603072; omega, by show _ ≤ 7174250; omega⟩ (fun H locs hI => ?_)
  refine lv_icmp_eq (tgt := 2968) C0.1 C0.2.1 dL_law_2469 (by decide) (fun _ => ?_) (fun z => absurd rfl z)
  refine W.widen (k := ca + 40) (n := sa + 3200) (by omega) (by omega) ?_
  exact kk r T M Mm1 o d J H locs ls hRl1 (lv_sub hl [0, 1, 2, 3, 4, 5] rfl) hI

def SC_adoptedCount (n : Nat) (Rl : Nat → Mem → Mem → Mem → Prop) : Prop := ∀ (j : Nat) (T M Mm : Mem), j < 512 → Rl j T M Mm → ∃ (v : Int32) (Mm' : Mem), F_X9_adoptedCount n M = some v ∧ F_X10_adoptedCount n Mm = some (v, Mm') ∧ Rl (j + 1) T M Mm'
set_option maxHeartbeats 4000000 in
theorem law_adoptedCount {p : Program} {l : Launch} (hl0 : l.stackTraces = false) {e : Env} {s : State} {m : MethodId} {args : Array Value} {below : List Frame} {meth : Method} {c : Code} {Q : State → Prop} (C0 : CallFix p m c code 9 s args LWg RL) {g : GG} (hC : CC g (AL s) s) {bs L : Nat} {xs : Nat → Int32} (hX : LX bs L xs s) {b bm : Nat → Nat} {q1 q2 n j ca sa : Nat} (hca : ca + 40 ≤ 603072) (hsa : sa + 3200 ≤ 7174250) {x5 : Int32} (hi : ∀ k : Int32, 0 ≤ k → k ≤ 4 → vp_in (x5 + k) L) (hj : j < 512) {Rl : Nat → Mem → Mem → Mem → Prop} (hS : SC_adoptedCount n Rl)
    {r : Nat → Nat} {T M Mm : Mem} {o : Nat → Int64} {d : Nat → UInt64} {J : va_W} (hRl : Rl j T M Mm) {H : Heap} {locs : List Loc} {ls : Array Slot} (hl : lv_has ls 9 [(5, .int x5), (0, .ref bs), (1, .ref (b 0)), (2, .ref (bm 0)), (3, .ref q1), (4, .ref q2)]) (hI : KI g (AL s) s (LWc g r b bm q1 q2 T M Mm o d J) H locs)
    (kk : ∀ (r : Nat → Nat) (T M Mm : Mem) (o : Nat → Int64) (d : Nat → UInt64) (J : va_W) (H : Heap) (locs : List Loc) (ls : Array Slot), Rl (j + 1) T M Mm → lv_has ls 9 [(5, .int x5), (0, .ref bs), (1, .ref (b 0)), (2, .ref (bm 0)), (3, .ref q1), (4, .ref q2)] → KI g (AL s) s (LWc g r b bm q1 q2 T M Mm o d J) H locs → W p l e room_1 s m args below meth c H locs (ca + 40) (sa + 3200) Q (F0 m 2968 ls [])) :
    W p l e room_1 s m args below meth c H locs ca sa Q (F0 m 2474 ls []) := by
  refine lv_aload_n C0.1 C0.2.1 dL_law_2474 rfl (lv_at hl 2 rfl) ?_
  obtain ⟨v, Mm1, h1, h2, hRl1⟩ := hS j T M Mm hj hRl
  refine lc_i (As := []) C0 hC hI (c_X9_adoptedCount l g (xb g r T ++ (outs g q1 q2 o d ++ (J ++ pw 10 (shM g bm) bm Mm))) r b H.size n M h1) w_467 w_468 w_469 w_119 w_470 ⟨rfl, rfl⟩ hd_X9_adoptedCount ⟨Nat.le_of_ble_eq_true rfl, Nat.le_of_ble_eq_true rfl⟩ rfl rfl hl.1 rfl (Nat.le_of_ble_eq_true rfl) dL_law_2475 ⟨by show _ ≤ 603072; omega, by show _ ≤ 7174250; omega⟩ (fun H locs hI => ?_)
  refine lv_aload_n C0.1 C0.2.1 dL_law_2478 rfl (lv_at hl 3 rfl) ?_
  refine lm_i (As := []) C0 hC hI (c_X10_adoptedCount l g (xb g r T ++ (outs g q1 q2 o d ++ J) ++ pw 372 (shI g r b) b M) bm H.size n Mm h2) w_2084 w_2085 w_2086 w_132 w_2087 ⟨rfl, rfl⟩ hd_X10_adoptedCount ⟨Nat.le_of_ble_eq_true rfl, Nat.le_of_ble_eq_true rfl⟩ rfl rfl hl.1 rfl (Nat.le_of_ble_eq_true rfl) dL_law_2479 ⟨by show _ ≤ 603072; omega, by show _ ≤ 7174250; omega⟩ (fun H locs hI => ?_)
  refine lv_icmp_eq (tgt := 2968) C0.1 C0.2.1 dL_law_2482 (by decide) (fun _ => ?_) (fun z => absurd rfl z)
  refine W.widen (k := ca + 40) (n := sa + 3200) (by omega) (by omega) ?_
  exact kk r T M Mm1 o d J H locs ls hRl1 (lv_sub hl [0, 1, 2, 3, 4, 5] rfl) hI

def SC_append (n : Nat) (Rl : Nat → Mem → Mem → Mem → Prop) : Prop := ∀ (j : Nat) (T M Mm : Mem) (x1 : Int32), j < 512 → Rl j T M Mm → isC x1 = true → ∃ (q0 : RX Int32) (T' : Mem) (M' : Mem) (v : Int32) (Mm' : Mem), Fg_X9_append n T x1 M = some (q0, T', M') ∧ F_X10_append n x1 Mm = some (v, Mm') ∧ (∀ k, q0 = .inl k → k = 1 ∨ k = 0) ∧ Mm' 0 0 = cx [1, 0] q0 ∧ (∀ w, q0 = .inr w → w = v) ∧ (∀ k, q0 = .inl k → T' = T) ∧ Rl (j + 1) T' M' Mm'
set_option maxHeartbeats 4000000 in
theorem law_append {p : Program} {l : Launch} (hl0 : l.stackTraces = false) {e : Env} {s : State} {m : MethodId} {args : Array Value} {below : List Frame} {meth : Method} {c : Code} {Q : State → Prop} (C0 : CallFix p m c code 9 s args LWg RL) {g : GG} (hC : CC g (AL s) s) {bs L : Nat} {xs : Nat → Int32} (hX : LX bs L xs s) {b bm : Nat → Nat} {q1 q2 n j ca sa : Nat} (hca : ca + 40 ≤ 603072) (hsa : sa + 3200 ≤ 7174250) {x5 : Int32} (hi : ∀ k : Int32, 0 ≤ k → k ≤ 4 → vp_in (x5 + k) L) (hj : j < 512) {Rl : Nat → Mem → Mem → Mem → Prop} (hS : SC_append n Rl)
    {r : Nat → Nat} {T M Mm : Mem} {o : Nat → Int64} {d : Nat → UInt64} {J : va_W} (hRl : Rl j T M Mm) {H : Heap} {locs : List Loc} {ls : Array Slot} (hl : lv_has ls 9 [(5, .int x5), (0, .ref bs), (1, .ref (b 0)), (2, .ref (bm 0)), (3, .ref q1), (4, .ref q2)]) (hI : KI g (AL s) s (LWc g r b bm q1 q2 T M Mm o d J) H locs)
    (kk : ∀ (r : Nat → Nat) (T M Mm : Mem) (o : Nat → Int64) (d : Nat → UInt64) (J : va_W) (H : Heap) (locs : List Loc) (ls : Array Slot), Rl (j + 1) T M Mm → lv_has ls 9 [(5, .int x5), (0, .ref bs), (1, .ref (b 0)), (2, .ref (bm 0)), (3, .ref q1), (4, .ref q2)] → KI g (AL s) s (LWc g r b bm q1 q2 T M Mm o d J) H locs → W p l e room_1 s m args below meth c H locs (ca + 40) (sa + 3200) Q (F0 m 2968 ls [])) :
    W p l e room_1 s m args below meth c H locs ca sa Q (F0 m 2487 ls []) := by
  refine lv_aload_n C0.1 C0.2.1 dL_law_2487 rfl (lv_at hl 2 rfl) ?_
  refine lv_aload_n C0.1 C0.2.1 dL_law_2488 rfl (lv_at hl 1 rfl) ?_
  refine lv_iload C0.1 C0.2.1 dL_law_2489 (lv_at hl 0 rfl) ?_
  refine lv_iconst (v := 1) C0.1 C0.2.1 dL_law_2491 (by decide) ?_
  refine lv_iadd C0.1 C0.2.1 dL_law_2492 ?_
  refine l_xs C0 hX hI (hi 1 (by decide) (by decide)) dL_law_2493 ?_
  refine lv_i2c C0.1 C0.2.1 dL_law_2494 rfl ?_
  refine lv_aload_n C0.1 C0.2.1 dL_law_2495 rfl (lv_at hl 4 rfl) ?_
  obtain ⟨q0, T1, M1, v, Mm1, h1, h2, h3, h5, h6, h7, hRl1⟩ := hS j T M Mm (((xs (ix (x5 + 1))).toUInt32 % 65536).toInt32) hj hRl (isC_c _)
  refine lc_g (As := [.ref (b 0), .int ((xs (ix (x5 + 1))).toUInt32 % 65536).toInt32, .ref q1]) C0 hC hI (h_append l hl0 g (J ++ pw 10 (shM g bm) bm Mm) r b H.size n T M q1 q2 o d (((xs (ix (x5 + 1))).toUInt32 % 65536).toInt32) h1 h3 h7) w_1222 w_1223 w_118 w_1224 ⟨rfl, rfl⟩ hd_L_append ⟨Nat.le_of_ble_eq_true rfl, Nat.le_of_ble_eq_true rfl⟩ rfl hl.1 rfl (Nat.le_of_ble_eq_true rfl) dL_law_2496 ⟨by show _ ≤ 603072; omega, by show _ ≤ 7174250; omega⟩ (fun r1 J1 H locs hI => ?_)
  refine lv_istore (lv' := [(6, .int (cx [1, 0] q0)), (5, .int x5), (0, .ref bs), (1, .ref (b 0)), (2, .ref (bm 0)), (3, .ref q1), (4, .ref q2)]) C0.1 C0.2.1 dL_law_2499 hl (by decide) rfl (fun ls hl => ?_)
  refine lv_aload_n C0.1 C0.2.1 dL_law_2501 rfl (lv_at hl 4 rfl) ?_
  refine lv_aload_n C0.1 C0.2.1 dL_law_2502 rfl (lv_at hl 2 rfl) ?_
  refine lv_iload C0.1 C0.2.1 dL_law_2503 (lv_at hl 1 rfl) ?_
  refine lv_iconst (v := 1) C0.1 C0.2.1 dL_law_2505 (by decide) ?_
  refine lv_iadd C0.1 C0.2.1 dL_law_2506 ?_
  refine l_xs C0 hX hI (hi 1 (by decide) (by decide)) dL_law_2507 ?_
  refine lv_i2c C0.1 C0.2.1 dL_law_2508 rfl ?_
  refine lm_i (As := [.int ((xs (ix (x5 + 1))).toUInt32 % 65536).toInt32]) C0 hC hI (c_X10_append l g (xb g r1 T1 ++ (outs g q1 q2 (ou ciI o q0) d ++ J1) ++ pw 372 (shI g r1 b) b M1) bm H.size n Mm (((xs (ix (x5 + 1))).toUInt32 % 65536).toInt32) h2) w_2088 w_2089 w_2090 w_132 w_2091 ⟨rfl, rfl⟩ hd_X10_append ⟨Nat.le_of_ble_eq_true rfl, Nat.le_of_ble_eq_true rfl⟩ rfl rfl hl.1 rfl (Nat.le_of_ble_eq_true rfl) dL_law_2509 ⟨by show _ ≤ 603072; omega, by show _ ≤ 7174250; omega⟩ (fun H locs hI => ?_)
  refine lv_istore (lv' := [(7, .int v), (6, .int (cx [1, 0] q0)), (5, .int x5), (0, .ref bs), (1, .ref (b 0)), (2, .ref (bm 0)), (3, .ref q1), (4, .ref q2)]) C0.1 C0.2.1 dL_law_2512 hl (by decide) rfl (fun ls hl => ?_)
  refine lv_aload_n C0.1 C0.2.1 dL_law_2514 rfl (lv_at hl 5 rfl) ?_
  refine lm_i (As := []) C0 hC hI (c_X10_thrown l g (xb g r1 T1 ++ (outs g q1 q2 (ou ciI o q0) d ++ J1) ++ pw 372 (shI g r1 b) b M1) bm H.size n Mm1 rfl) w_1752 w_1753 w_1754 w_132 w_1755 ⟨rfl, rfl⟩ hd_X10_thrown ⟨Nat.le_of_ble_eq_true rfl, Nat.le_of_ble_eq_true rfl⟩ rfl rfl hl.1 rfl (Nat.le_of_ble_eq_true rfl) dL_law_2515 ⟨by show _ ≤ 603072; omega, by show _ ≤ 7174250; omega⟩ (fun H locs hI => ?_)
  refine lv_iload C0.1 C0.2.1 dL_law_2518 (lv_at hl 1 rfl) ?_
  refine lv_icmp_eq (tgt := 2525) C0.1 C0.2.1 dL_law_2520 (by decide) (fun _ => ?_) (fun z => absurd h5 z)
  refine lv_iload C0.1 C0.2.1 dL_law_2525 (lv_at hl 1 rfl) ?_
  refine lv_if_ne (tgt := 2542) C0.1 C0.2.1 dL_law_2527 (by decide) (fun cz => ?_) (fun cz => ?_)
  · skip
    refine lv_goto (tgt := 2968) C0.1 C0.2.1 dL_law_2542 (by decide) ?_
    refine W.widen (k := ca + 40) (n := sa + 3200) (by omega) (by omega) ?_
    exact kk r1 T1 M1 Mm1 (ou ciI o q0) d J1 H locs ls hRl1 (lv_sub hl [2, 3, 4, 5, 6, 7] rfl) hI
  · obtain ⟨w, hw⟩ := cx_0 (by decide) cz
    refine lv_aload_n C0.1 C0.2.1 dL_law_2530 rfl (lv_at hl 6 rfl) ?_
    refine lv_iconst (v := 0) C0.1 C0.2.1 dL_law_2531 (by decide) ?_
    refine lc_lald C0 hC hI dL_law_2532 ?_
    rw [our (f := ciI) hw, updL0]
    refine lv_iload C0.1 C0.2.1 dL_law_2533 (lv_at hl 0 rfl) ?_
    refine lv_i2l C0.1 C0.2.1 dL_law_2535 rfl ?_
    refine W.lcmp C0.1 C0.2.1 dL_law_2536 ?_
    rw [show ciI w = v.toInt64 from by rw [h6 w hw], lg_eq]
    refine lv_if_eq (tgt := 2542) C0.1 C0.2.1 dL_law_2537 (by decide) (fun _ => ?_) (fun z => absurd rfl z)
    refine lv_goto (tgt := 2968) C0.1 C0.2.1 dL_law_2542 (by decide) ?_
    refine W.widen (k := ca + 40) (n := sa + 3200) (by omega) (by omega) ?_
    exact kk r1 T1 M1 Mm1 (ou ciI o q0) d J1 H locs ls hRl1 (lv_sub hl [2, 3, 4, 5, 6, 7] rfl) hI

def SC_run (n : Nat) (Rl : Nat → Mem → Mem → Mem → Prop) : Prop := ∀ (j : Nat) (T M Mm : Mem), j < 512 → Rl j T M Mm → ∃ (q0 : RX Int32) (M' : Mem) (v : Int32) (Mm' : Mem), F_X9_run n T M = some (q0, M') ∧ F_X10_run n Mm = some (v, Mm') ∧ (∀ k, q0 = .inl k → k = 1 ∨ k = 0) ∧ Mm' 0 0 = cx [1, 0] q0 ∧ (∀ w, q0 = .inr w → w = v) ∧ Rl (j + 1) T M' Mm'
set_option maxHeartbeats 4000000 in
theorem law_run {p : Program} {l : Launch} (hl0 : l.stackTraces = false) {e : Env} {s : State} {m : MethodId} {args : Array Value} {below : List Frame} {meth : Method} {c : Code} {Q : State → Prop} (C0 : CallFix p m c code 9 s args LWg RL) {g : GG} (hC : CC g (AL s) s) {bs L : Nat} {xs : Nat → Int32} (hX : LX bs L xs s) {b bm : Nat → Nat} {q1 q2 n j ca sa : Nat} (hca : ca + 40 ≤ 603072) (hsa : sa + 3200 ≤ 7174250) {x5 : Int32} (hi : ∀ k : Int32, 0 ≤ k → k ≤ 4 → vp_in (x5 + k) L) (hj : j < 512) {Rl : Nat → Mem → Mem → Mem → Prop} (hS : SC_run n Rl)
    {r : Nat → Nat} {T M Mm : Mem} {o : Nat → Int64} {d : Nat → UInt64} {J : va_W} (hRl : Rl j T M Mm) {H : Heap} {locs : List Loc} {ls : Array Slot} (hl : lv_has ls 9 [(5, .int x5), (0, .ref bs), (1, .ref (b 0)), (2, .ref (bm 0)), (3, .ref q1), (4, .ref q2)]) (hI : KI g (AL s) s (LWc g r b bm q1 q2 T M Mm o d J) H locs)
    (kk : ∀ (r : Nat → Nat) (T M Mm : Mem) (o : Nat → Int64) (d : Nat → UInt64) (J : va_W) (H : Heap) (locs : List Loc) (ls : Array Slot), Rl (j + 1) T M Mm → lv_has ls 9 [(5, .int x5), (0, .ref bs), (1, .ref (b 0)), (2, .ref (bm 0)), (3, .ref q1), (4, .ref q2)] → KI g (AL s) s (LWc g r b bm q1 q2 T M Mm o d J) H locs → W p l e room_1 s m args below meth c H locs (ca + 40) (sa + 3200) Q (F0 m 2968 ls [])) :
    W p l e room_1 s m args below meth c H locs ca sa Q (F0 m 2545 ls []) := by
  refine lv_aload_n C0.1 C0.2.1 dL_law_2545 rfl (lv_at hl 2 rfl) ?_
  refine lv_aload_n C0.1 C0.2.1 dL_law_2546 rfl (lv_at hl 4 rfl) ?_
  obtain ⟨q0, M1, v, Mm1, h1, h2, h3, h5, h6, hRl1⟩ := hS j T M Mm  hj hRl
  refine lc_h (As := [.ref (b 0), .ref q1]) C0 hC hI (h_run l hl0 g (J ++ pw 10 (shM g bm) bm Mm) r b H.size n T M q1 q2 o d h1 h3) w_1331 w_1332 w_118 w_1333 ⟨rfl, rfl⟩ hd_L_run ⟨Nat.le_of_ble_eq_true rfl, Nat.le_of_ble_eq_true rfl⟩ rfl hl.1 rfl (Nat.le_of_ble_eq_true rfl) dL_law_2547 ⟨by show _ ≤ 603072; omega, by show _ ≤ 7174250; omega⟩ (fun H locs hI => ?_)
  refine lv_istore (lv' := [(6, .int (cx [1, 0] q0)), (5, .int x5), (0, .ref bs), (1, .ref (b 0)), (2, .ref (bm 0)), (3, .ref q1), (4, .ref q2)]) C0.1 C0.2.1 dL_law_2550 hl (by decide) rfl (fun ls hl => ?_)
  refine lv_aload_n C0.1 C0.2.1 dL_law_2552 rfl (lv_at hl 4 rfl) ?_
  refine lm_i (As := []) C0 hC hI (c_X10_run l g (xb g r T ++ (outs g q1 q2 (ou ciI o q0) d ++ J) ++ pw 372 (shI g r b) b M1) bm H.size n Mm h2) w_2092 w_2093 w_2094 w_132 w_2095 ⟨rfl, rfl⟩ hd_X10_run ⟨Nat.le_of_ble_eq_true rfl, Nat.le_of_ble_eq_true rfl⟩ rfl rfl hl.1 rfl (Nat.le_of_ble_eq_true rfl) dL_law_2553 ⟨by show _ ≤ 603072; omega, by show _ ≤ 7174250; omega⟩ (fun H locs hI => ?_)
  refine lv_istore (lv' := [(7, .int v), (6, .int (cx [1, 0] q0)), (5, .int x5), (0, .ref bs), (1, .ref (b 0)), (2, .ref (bm 0)), (3, .ref q1), (4, .ref q2)]) C0.1 C0.2.1 dL_law_2556 hl (by decide) rfl (fun ls hl => ?_)
  refine lv_aload_n C0.1 C0.2.1 dL_law_2558 rfl (lv_at hl 5 rfl) ?_
  refine lm_i (As := []) C0 hC hI (c_X10_thrown l g (xb g r T ++ (outs g q1 q2 (ou ciI o q0) d ++ J) ++ pw 372 (shI g r b) b M1) bm H.size n Mm1 rfl) w_1752 w_1753 w_1754 w_132 w_1755 ⟨rfl, rfl⟩ hd_X10_thrown ⟨Nat.le_of_ble_eq_true rfl, Nat.le_of_ble_eq_true rfl⟩ rfl rfl hl.1 rfl (Nat.le_of_ble_eq_true rfl) dL_law_2559 ⟨by show _ ≤ 603072; omega, by show _ ≤ 7174250; omega⟩ (fun H locs hI => ?_)
  refine lv_iload C0.1 C0.2.1 dL_law_2562 (lv_at hl 1 rfl) ?_
  refine lv_icmp_eq (tgt := 2569) C0.1 C0.2.1 dL_law_2564 (by decide) (fun _ => ?_) (fun z => absurd h5 z)
  refine lv_iload C0.1 C0.2.1 dL_law_2569 (lv_at hl 1 rfl) ?_
  refine lv_if_ne (tgt := 2586) C0.1 C0.2.1 dL_law_2571 (by decide) (fun cz => ?_) (fun cz => ?_)
  · skip
    refine lv_goto (tgt := 2968) C0.1 C0.2.1 dL_law_2586 (by decide) ?_
    refine W.widen (k := ca + 40) (n := sa + 3200) (by omega) (by omega) ?_
    exact kk r T M1 Mm1 (ou ciI o q0) d J H locs ls hRl1 (lv_sub hl [2, 3, 4, 5, 6, 7] rfl) hI
  · obtain ⟨w, hw⟩ := cx_0 (by decide) cz
    refine lv_aload_n C0.1 C0.2.1 dL_law_2574 rfl (lv_at hl 6 rfl) ?_
    refine lv_iconst (v := 0) C0.1 C0.2.1 dL_law_2575 (by decide) ?_
    refine lc_lald C0 hC hI dL_law_2576 ?_
    rw [our (f := ciI) hw, updL0]
    refine lv_iload C0.1 C0.2.1 dL_law_2577 (lv_at hl 0 rfl) ?_
    refine lv_i2l C0.1 C0.2.1 dL_law_2579 rfl ?_
    refine W.lcmp C0.1 C0.2.1 dL_law_2580 ?_
    rw [show ciI w = v.toInt64 from by rw [h6 w hw], lg_eq]
    refine lv_if_eq (tgt := 2586) C0.1 C0.2.1 dL_law_2581 (by decide) (fun _ => ?_) (fun z => absurd rfl z)
    refine lv_goto (tgt := 2968) C0.1 C0.2.1 dL_law_2586 (by decide) ?_
    refine W.widen (k := ca + 40) (n := sa + 3200) (by omega) (by omega) ?_
    exact kk r T M1 Mm1 (ou ciI o q0) d J H locs ls hRl1 (lv_sub hl [2, 3, 4, 5, 6, 7] rfl) hI

def SC_errorPosition (n : Nat) (Rl : Nat → Mem → Mem → Mem → Prop) : Prop := ∀ (j : Nat) (T M Mm : Mem), j < 512 → Rl j T M Mm → ∃ (q0 : RX Int32) (v : Int32) (Mm' : Mem), F_X9_errorPosition n M = some q0 ∧ F_X10_errorPosition n Mm = some (v, Mm') ∧ (∀ k, q0 = .inl k → k = 5) ∧ Mm' 0 0 = cx [5] q0 ∧ (∀ w, q0 = .inr w → w = v) ∧ Rl (j + 1) T M Mm'
set_option maxHeartbeats 4000000 in
theorem law_errorPosition {p : Program} {l : Launch} (hl0 : l.stackTraces = false) {e : Env} {s : State} {m : MethodId} {args : Array Value} {below : List Frame} {meth : Method} {c : Code} {Q : State → Prop} (C0 : CallFix p m c code 9 s args LWg RL) {g : GG} (hC : CC g (AL s) s) {bs L : Nat} {xs : Nat → Int32} (hX : LX bs L xs s) {b bm : Nat → Nat} {q1 q2 n j ca sa : Nat} (hca : ca + 40 ≤ 603072) (hsa : sa + 3200 ≤ 7174250) {x5 : Int32} (hi : ∀ k : Int32, 0 ≤ k → k ≤ 4 → vp_in (x5 + k) L) (hj : j < 512) {Rl : Nat → Mem → Mem → Mem → Prop} (hS : SC_errorPosition n Rl)
    {r : Nat → Nat} {T M Mm : Mem} {o : Nat → Int64} {d : Nat → UInt64} {J : va_W} (hRl : Rl j T M Mm) {H : Heap} {locs : List Loc} {ls : Array Slot} (hl : lv_has ls 9 [(5, .int x5), (0, .ref bs), (1, .ref (b 0)), (2, .ref (bm 0)), (3, .ref q1), (4, .ref q2)]) (hI : KI g (AL s) s (LWc g r b bm q1 q2 T M Mm o d J) H locs)
    (kk : ∀ (r : Nat → Nat) (T M Mm : Mem) (o : Nat → Int64) (d : Nat → UInt64) (J : va_W) (H : Heap) (locs : List Loc) (ls : Array Slot), Rl (j + 1) T M Mm → lv_has ls 9 [(5, .int x5), (0, .ref bs), (1, .ref (b 0)), (2, .ref (bm 0)), (3, .ref q1), (4, .ref q2)] → KI g (AL s) s (LWc g r b bm q1 q2 T M Mm o d J) H locs → W p l e room_1 s m args below meth c H locs (ca + 40) (sa + 3200) Q (F0 m 2968 ls [])) :
    W p l e room_1 s m args below meth c H locs ca sa Q (F0 m 2589 ls []) := by
  refine lv_aload_n C0.1 C0.2.1 dL_law_2589 rfl (lv_at hl 2 rfl) ?_
  refine lv_aload_n C0.1 C0.2.1 dL_law_2590 rfl (lv_at hl 4 rfl) ?_
  obtain ⟨q0, v, Mm1, h1, h2, h3, h5, h6, hRl1⟩ := hS j T M Mm  hj hRl
  refine lc_h (As := [.ref (b 0), .ref q1]) C0 hC hI (h_errorPosition l hl0 g (J ++ pw 10 (shM g bm) bm Mm) r b H.size n T M q1 q2 o d h1 h3) w_1620 w_1621 w_118 w_1622 ⟨rfl, rfl⟩ hd_L_errorPosition ⟨Nat.le_of_ble_eq_true rfl, Nat.le_of_ble_eq_true rfl⟩ rfl hl.1 rfl (Nat.le_of_ble_eq_true rfl) dL_law_2591 ⟨by show _ ≤ 603072; omega, by show _ ≤ 7174250; omega⟩ (fun H locs hI => ?_)
  refine lv_istore (lv' := [(6, .int (cx [5] q0)), (5, .int x5), (0, .ref bs), (1, .ref (b 0)), (2, .ref (bm 0)), (3, .ref q1), (4, .ref q2)]) C0.1 C0.2.1 dL_law_2594 hl (by decide) rfl (fun ls hl => ?_)
  refine lv_aload_n C0.1 C0.2.1 dL_law_2596 rfl (lv_at hl 4 rfl) ?_
  refine lm_i (As := []) C0 hC hI (c_X10_errorPosition l g (xb g r T ++ (outs g q1 q2 (ou ciI o q0) d ++ J) ++ pw 372 (shI g r b) b M) bm H.size n Mm h2) w_2132 w_2133 w_2134 w_132 w_2135 ⟨rfl, rfl⟩ hd_X10_errorPosition ⟨Nat.le_of_ble_eq_true rfl, Nat.le_of_ble_eq_true rfl⟩ rfl rfl hl.1 rfl (Nat.le_of_ble_eq_true rfl) dL_law_2597 ⟨by show _ ≤ 603072; omega, by show _ ≤ 7174250; omega⟩ (fun H locs hI => ?_)
  refine lv_istore (lv' := [(7, .int v), (6, .int (cx [5] q0)), (5, .int x5), (0, .ref bs), (1, .ref (b 0)), (2, .ref (bm 0)), (3, .ref q1), (4, .ref q2)]) C0.1 C0.2.1 dL_law_2600 hl (by decide) rfl (fun ls hl => ?_)
  refine lv_aload_n C0.1 C0.2.1 dL_law_2602 rfl (lv_at hl 5 rfl) ?_
  refine lm_i (As := []) C0 hC hI (c_X10_thrown l g (xb g r T ++ (outs g q1 q2 (ou ciI o q0) d ++ J) ++ pw 372 (shI g r b) b M) bm H.size n Mm1 rfl) w_1752 w_1753 w_1754 w_132 w_1755 ⟨rfl, rfl⟩ hd_X10_thrown ⟨Nat.le_of_ble_eq_true rfl, Nat.le_of_ble_eq_true rfl⟩ rfl rfl hl.1 rfl (Nat.le_of_ble_eq_true rfl) dL_law_2603 ⟨by show _ ≤ 603072; omega, by show _ ≤ 7174250; omega⟩ (fun H locs hI => ?_)
  refine lv_iload C0.1 C0.2.1 dL_law_2606 (lv_at hl 1 rfl) ?_
  refine lv_icmp_eq (tgt := 2613) C0.1 C0.2.1 dL_law_2608 (by decide) (fun _ => ?_) (fun z => absurd h5 z)
  refine lv_iload C0.1 C0.2.1 dL_law_2613 (lv_at hl 1 rfl) ?_
  refine lv_if_ne (tgt := 2630) C0.1 C0.2.1 dL_law_2615 (by decide) (fun cz => ?_) (fun cz => ?_)
  · skip
    refine lv_goto (tgt := 2968) C0.1 C0.2.1 dL_law_2630 (by decide) ?_
    refine W.widen (k := ca + 40) (n := sa + 3200) (by omega) (by omega) ?_
    exact kk r T M Mm1 (ou ciI o q0) d J H locs ls hRl1 (lv_sub hl [2, 3, 4, 5, 6, 7] rfl) hI
  · obtain ⟨w, hw⟩ := cx_0 (by decide) cz
    refine lv_aload_n C0.1 C0.2.1 dL_law_2618 rfl (lv_at hl 6 rfl) ?_
    refine lv_iconst (v := 0) C0.1 C0.2.1 dL_law_2619 (by decide) ?_
    refine lc_lald C0 hC hI dL_law_2620 ?_
    rw [our (f := ciI) hw, updL0]
    refine lv_iload C0.1 C0.2.1 dL_law_2621 (lv_at hl 0 rfl) ?_
    refine lv_i2l C0.1 C0.2.1 dL_law_2623 rfl ?_
    refine W.lcmp C0.1 C0.2.1 dL_law_2624 ?_
    rw [show ciI w = v.toInt64 from by rw [h6 w hw], lg_eq]
    refine lv_if_eq (tgt := 2630) C0.1 C0.2.1 dL_law_2625 (by decide) (fun _ => ?_) (fun z => absurd rfl z)
    refine lv_goto (tgt := 2968) C0.1 C0.2.1 dL_law_2630 (by decide) ?_
    refine W.widen (k := ca + 40) (n := sa + 3200) (by omega) (by omega) ?_
    exact kk r T M Mm1 (ou ciI o q0) d J H locs ls hRl1 (lv_sub hl [2, 3, 4, 5, 6, 7] rfl) hI

def SC_failedCommand (n : Nat) (Rl : Nat → Mem → Mem → Mem → Prop) : Prop := ∀ (j : Nat) (T M Mm : Mem), j < 512 → Rl j T M Mm → ∃ (q0 : RX Int32) (v : Int32) (Mm' : Mem), F_X9_failedCommand n M = some q0 ∧ F_X10_failedCommand n Mm = some (v, Mm') ∧ (∀ k, q0 = .inl k → k = 5) ∧ Mm' 0 0 = cx [5] q0 ∧ (∀ w, q0 = .inr w → w = v) ∧ Rl (j + 1) T M Mm'
set_option maxHeartbeats 4000000 in
theorem law_failedCommand {p : Program} {l : Launch} (hl0 : l.stackTraces = false) {e : Env} {s : State} {m : MethodId} {args : Array Value} {below : List Frame} {meth : Method} {c : Code} {Q : State → Prop} (C0 : CallFix p m c code 9 s args LWg RL) {g : GG} (hC : CC g (AL s) s) {bs L : Nat} {xs : Nat → Int32} (hX : LX bs L xs s) {b bm : Nat → Nat} {q1 q2 n j ca sa : Nat} (hca : ca + 40 ≤ 603072) (hsa : sa + 3200 ≤ 7174250) {x5 : Int32} (hi : ∀ k : Int32, 0 ≤ k → k ≤ 4 → vp_in (x5 + k) L) (hj : j < 512) {Rl : Nat → Mem → Mem → Mem → Prop} (hS : SC_failedCommand n Rl)
    {r : Nat → Nat} {T M Mm : Mem} {o : Nat → Int64} {d : Nat → UInt64} {J : va_W} (hRl : Rl j T M Mm) {H : Heap} {locs : List Loc} {ls : Array Slot} (hl : lv_has ls 9 [(5, .int x5), (0, .ref bs), (1, .ref (b 0)), (2, .ref (bm 0)), (3, .ref q1), (4, .ref q2)]) (hI : KI g (AL s) s (LWc g r b bm q1 q2 T M Mm o d J) H locs)
    (kk : ∀ (r : Nat → Nat) (T M Mm : Mem) (o : Nat → Int64) (d : Nat → UInt64) (J : va_W) (H : Heap) (locs : List Loc) (ls : Array Slot), Rl (j + 1) T M Mm → lv_has ls 9 [(5, .int x5), (0, .ref bs), (1, .ref (b 0)), (2, .ref (bm 0)), (3, .ref q1), (4, .ref q2)] → KI g (AL s) s (LWc g r b bm q1 q2 T M Mm o d J) H locs → W p l e room_1 s m args below meth c H locs (ca + 40) (sa + 3200) Q (F0 m 2968 ls [])) :
    W p l e room_1 s m args below meth c H locs ca sa Q (F0 m 2633 ls []) := by
  refine lv_aload_n C0.1 C0.2.1 dL_law_2633 rfl (lv_at hl 2 rfl) ?_
  refine lv_aload_n C0.1 C0.2.1 dL_law_2634 rfl (lv_at hl 4 rfl) ?_
  obtain ⟨q0, v, Mm1, h1, h2, h3, h5, h6, hRl1⟩ := hS j T M Mm  hj hRl
  refine lc_h (As := [.ref (b 0), .ref q1]) C0 hC hI (h_failedCommand l hl0 g (J ++ pw 10 (shM g bm) bm Mm) r b H.size n T M q1 q2 o d h1 h3) w_1628 w_1629 w_118 w_1630 ⟨rfl, rfl⟩ hd_L_failedCommand ⟨Nat.le_of_ble_eq_true rfl, Nat.le_of_ble_eq_true rfl⟩ rfl hl.1 rfl (Nat.le_of_ble_eq_true rfl) dL_law_2635 ⟨by show _ ≤ 603072; omega, by show _ ≤ 7174250; omega⟩ (fun H locs hI => ?_)
  refine lv_istore (lv' := [(6, .int (cx [5] q0)), (5, .int x5), (0, .ref bs), (1, .ref (b 0)), (2, .ref (bm 0)), (3, .ref q1), (4, .ref q2)]) C0.1 C0.2.1 dL_law_2638 hl (by decide) rfl (fun ls hl => ?_)
  refine lv_aload_n C0.1 C0.2.1 dL_law_2640 rfl (lv_at hl 4 rfl) ?_
  refine lm_i (As := []) C0 hC hI (c_X10_failedCommand l g (xb g r T ++ (outs g q1 q2 (ou ciI o q0) d ++ J) ++ pw 372 (shI g r b) b M) bm H.size n Mm h2) w_2136 w_2137 w_2138 w_132 w_2139 ⟨rfl, rfl⟩ hd_X10_failedCommand ⟨Nat.le_of_ble_eq_true rfl, Nat.le_of_ble_eq_true rfl⟩ rfl rfl hl.1 rfl (Nat.le_of_ble_eq_true rfl) dL_law_2641 ⟨by show _ ≤ 603072; omega, by show _ ≤ 7174250; omega⟩ (fun H locs hI => ?_)
  refine lv_istore (lv' := [(7, .int v), (6, .int (cx [5] q0)), (5, .int x5), (0, .ref bs), (1, .ref (b 0)), (2, .ref (bm 0)), (3, .ref q1), (4, .ref q2)]) C0.1 C0.2.1 dL_law_2644 hl (by decide) rfl (fun ls hl => ?_)
  refine lv_aload_n C0.1 C0.2.1 dL_law_2646 rfl (lv_at hl 5 rfl) ?_
  refine lm_i (As := []) C0 hC hI (c_X10_thrown l g (xb g r T ++ (outs g q1 q2 (ou ciI o q0) d ++ J) ++ pw 372 (shI g r b) b M) bm H.size n Mm1 rfl) w_1752 w_1753 w_1754 w_132 w_1755 ⟨rfl, rfl⟩ hd_X10_thrown ⟨Nat.le_of_ble_eq_true rfl, Nat.le_of_ble_eq_true rfl⟩ rfl rfl hl.1 rfl (Nat.le_of_ble_eq_true rfl) dL_law_2647 ⟨by show _ ≤ 603072; omega, by show _ ≤ 7174250; omega⟩ (fun H locs hI => ?_)
  refine lv_iload C0.1 C0.2.1 dL_law_2650 (lv_at hl 1 rfl) ?_
  refine lv_icmp_eq (tgt := 2657) C0.1 C0.2.1 dL_law_2652 (by decide) (fun _ => ?_) (fun z => absurd h5 z)
  refine lv_iload C0.1 C0.2.1 dL_law_2657 (lv_at hl 1 rfl) ?_
  refine lv_if_ne (tgt := 2674) C0.1 C0.2.1 dL_law_2659 (by decide) (fun cz => ?_) (fun cz => ?_)
  · skip
    refine lv_goto (tgt := 2968) C0.1 C0.2.1 dL_law_2674 (by decide) ?_
    refine W.widen (k := ca + 40) (n := sa + 3200) (by omega) (by omega) ?_
    exact kk r T M Mm1 (ou ciI o q0) d J H locs ls hRl1 (lv_sub hl [2, 3, 4, 5, 6, 7] rfl) hI
  · obtain ⟨w, hw⟩ := cx_0 (by decide) cz
    refine lv_aload_n C0.1 C0.2.1 dL_law_2662 rfl (lv_at hl 6 rfl) ?_
    refine lv_iconst (v := 0) C0.1 C0.2.1 dL_law_2663 (by decide) ?_
    refine lc_lald C0 hC hI dL_law_2664 ?_
    rw [our (f := ciI) hw, updL0]
    refine lv_iload C0.1 C0.2.1 dL_law_2665 (lv_at hl 0 rfl) ?_
    refine lv_i2l C0.1 C0.2.1 dL_law_2667 rfl ?_
    refine W.lcmp C0.1 C0.2.1 dL_law_2668 ?_
    rw [show ciI w = v.toInt64 from by rw [h6 w hw], lg_eq]
    refine lv_if_eq (tgt := 2674) C0.1 C0.2.1 dL_law_2669 (by decide) (fun _ => ?_) (fun z => absurd rfl z)
    refine lv_goto (tgt := 2968) C0.1 C0.2.1 dL_law_2674 (by decide) ?_
    refine W.widen (k := ca + 40) (n := sa + 3200) (by omega) (by omega) ?_
    exact kk r T M Mm1 (ou ciI o q0) d J H locs ls hRl1 (lv_sub hl [2, 3, 4, 5, 6, 7] rfl) hI

def SC_describeList (n : Nat) (Rl : Nat → Mem → Mem → Mem → Prop) : Prop := ∀ (j : Nat) (T M Mm : Mem) (x1 : Int32), j < 512 → Rl j T M Mm → ∃ (q0 : RX Int32) (T' : Mem) (M' : Mem) (v : Int32) (Mm' : Mem), Fg_X9_describeList n T x1 M = some (q0, T', M') ∧ F_X10_describeList n x1 Mm = some (v, Mm') ∧ (∀ k, q0 = .inl k → k = 2) ∧ Mm' 0 0 = cx [2] q0 ∧ (∀ w, q0 = .inr w → w = v) ∧ (∀ k, q0 = .inl k → T' = T) ∧ Rl (j + 1) T' M' Mm'
set_option maxHeartbeats 4000000 in
theorem law_describeList {p : Program} {l : Launch} (hl0 : l.stackTraces = false) {e : Env} {s : State} {m : MethodId} {args : Array Value} {below : List Frame} {meth : Method} {c : Code} {Q : State → Prop} (C0 : CallFix p m c code 9 s args LWg RL) {g : GG} (hC : CC g (AL s) s) {bs L : Nat} {xs : Nat → Int32} (hX : LX bs L xs s) {b bm : Nat → Nat} {q1 q2 n j ca sa : Nat} (hca : ca + 40 ≤ 603072) (hsa : sa + 3200 ≤ 7174250) {x5 : Int32} (hi : ∀ k : Int32, 0 ≤ k → k ≤ 4 → vp_in (x5 + k) L) (hj : j < 512) {Rl : Nat → Mem → Mem → Mem → Prop} (hS : SC_describeList n Rl)
    {r : Nat → Nat} {T M Mm : Mem} {o : Nat → Int64} {d : Nat → UInt64} {J : va_W} (hRl : Rl j T M Mm) {H : Heap} {locs : List Loc} {ls : Array Slot} (hl : lv_has ls 9 [(5, .int x5), (0, .ref bs), (1, .ref (b 0)), (2, .ref (bm 0)), (3, .ref q1), (4, .ref q2)]) (hI : KI g (AL s) s (LWc g r b bm q1 q2 T M Mm o d J) H locs)
    (kk : ∀ (r : Nat → Nat) (T M Mm : Mem) (o : Nat → Int64) (d : Nat → UInt64) (J : va_W) (H : Heap) (locs : List Loc) (ls : Array Slot), Rl (j + 1) T M Mm → lv_has ls 9 [(5, .int x5), (0, .ref bs), (1, .ref (b 0)), (2, .ref (bm 0)), (3, .ref q1), (4, .ref q2)] → KI g (AL s) s (LWc g r b bm q1 q2 T M Mm o d J) H locs → W p l e room_1 s m args below meth c H locs (ca + 40) (sa + 3200) Q (F0 m 2968 ls [])) :
    W p l e room_1 s m args below meth c H locs ca sa Q (F0 m 2677 ls []) := by
  refine lv_aload_n C0.1 C0.2.1 dL_law_2677 rfl (lv_at hl 2 rfl) ?_
  refine lv_aload_n C0.1 C0.2.1 dL_law_2678 rfl (lv_at hl 1 rfl) ?_
  refine lv_iload C0.1 C0.2.1 dL_law_2679 (lv_at hl 0 rfl) ?_
  refine lv_iconst (v := 1) C0.1 C0.2.1 dL_law_2681 (by decide) ?_
  refine lv_iadd C0.1 C0.2.1 dL_law_2682 ?_
  refine l_xs C0 hX hI (hi 1 (by decide) (by decide)) dL_law_2683 ?_
  refine lv_aload_n C0.1 C0.2.1 dL_law_2684 rfl (lv_at hl 4 rfl) ?_
  obtain ⟨q0, T1, M1, v, Mm1, h1, h2, h3, h5, h6, h7, hRl1⟩ := hS j T M Mm (xs (ix (x5 + 1))) hj hRl
  refine lc_g (As := [.ref (b 0), .int (xs (ix (x5 + 1))), .ref q1]) C0 hC hI (h_describeList l hl0 g (J ++ pw 10 (shM g bm) bm Mm) r b H.size n T M q1 q2 o d (xs (ix (x5 + 1))) h1 h3 h7) w_1636 w_1637 w_118 w_1638 ⟨rfl, rfl⟩ hd_L_describeList ⟨Nat.le_of_ble_eq_true rfl, Nat.le_of_ble_eq_true rfl⟩ rfl hl.1 rfl (Nat.le_of_ble_eq_true rfl) dL_law_2685 ⟨by show _ ≤ 603072; omega, by show _ ≤ 7174250; omega⟩ (fun r1 J1 H locs hI => ?_)
  refine lv_istore (lv' := [(6, .int (cx [2] q0)), (5, .int x5), (0, .ref bs), (1, .ref (b 0)), (2, .ref (bm 0)), (3, .ref q1), (4, .ref q2)]) C0.1 C0.2.1 dL_law_2688 hl (by decide) rfl (fun ls hl => ?_)
  refine lv_aload_n C0.1 C0.2.1 dL_law_2690 rfl (lv_at hl 4 rfl) ?_
  refine lv_aload_n C0.1 C0.2.1 dL_law_2691 rfl (lv_at hl 2 rfl) ?_
  refine lv_iload C0.1 C0.2.1 dL_law_2692 (lv_at hl 1 rfl) ?_
  refine lv_iconst (v := 1) C0.1 C0.2.1 dL_law_2694 (by decide) ?_
  refine lv_iadd C0.1 C0.2.1 dL_law_2695 ?_
  refine l_xs C0 hX hI (hi 1 (by decide) (by decide)) dL_law_2696 ?_
  refine lm_i (As := [.int (xs (ix (x5 + 1)))]) C0 hC hI (c_X10_describeList l g (xb g r1 T1 ++ (outs g q1 q2 (ou ciI o q0) d ++ J1) ++ pw 372 (shI g r1 b) b M1) bm H.size n Mm (xs (ix (x5 + 1))) h2) w_2140 w_2141 w_2142 w_132 w_2143 ⟨rfl, rfl⟩ hd_X10_describeList ⟨Nat.le_of_ble_eq_true rfl, Nat.le_of_ble_eq_true rfl⟩ rfl rfl hl.1 rfl (Nat.le_of_ble_eq_true rfl) dL_law_2697 ⟨by show _ ≤ 603072; omega, by show _ ≤ 7174250; omega⟩ (fun H locs hI => ?_)
  refine lv_istore (lv' := [(7, .int v), (6, .int (cx [2] q0)), (5, .int x5), (0, .ref bs), (1, .ref (b 0)), (2, .ref (bm 0)), (3, .ref q1), (4, .ref q2)]) C0.1 C0.2.1 dL_law_2700 hl (by decide) rfl (fun ls hl => ?_)
  refine lv_aload_n C0.1 C0.2.1 dL_law_2702 rfl (lv_at hl 5 rfl) ?_
  refine lm_i (As := []) C0 hC hI (c_X10_thrown l g (xb g r1 T1 ++ (outs g q1 q2 (ou ciI o q0) d ++ J1) ++ pw 372 (shI g r1 b) b M1) bm H.size n Mm1 rfl) w_1752 w_1753 w_1754 w_132 w_1755 ⟨rfl, rfl⟩ hd_X10_thrown ⟨Nat.le_of_ble_eq_true rfl, Nat.le_of_ble_eq_true rfl⟩ rfl rfl hl.1 rfl (Nat.le_of_ble_eq_true rfl) dL_law_2703 ⟨by show _ ≤ 603072; omega, by show _ ≤ 7174250; omega⟩ (fun H locs hI => ?_)
  refine lv_iload C0.1 C0.2.1 dL_law_2706 (lv_at hl 1 rfl) ?_
  refine lv_icmp_eq (tgt := 2713) C0.1 C0.2.1 dL_law_2708 (by decide) (fun _ => ?_) (fun z => absurd h5 z)
  refine lv_iload C0.1 C0.2.1 dL_law_2713 (lv_at hl 1 rfl) ?_
  refine lv_if_ne (tgt := 2730) C0.1 C0.2.1 dL_law_2715 (by decide) (fun cz => ?_) (fun cz => ?_)
  · skip
    refine lv_goto (tgt := 2968) C0.1 C0.2.1 dL_law_2730 (by decide) ?_
    refine W.widen (k := ca + 40) (n := sa + 3200) (by omega) (by omega) ?_
    exact kk r1 T1 M1 Mm1 (ou ciI o q0) d J1 H locs ls hRl1 (lv_sub hl [2, 3, 4, 5, 6, 7] rfl) hI
  · obtain ⟨w, hw⟩ := cx_0 (by decide) cz
    refine lv_aload_n C0.1 C0.2.1 dL_law_2718 rfl (lv_at hl 6 rfl) ?_
    refine lv_iconst (v := 0) C0.1 C0.2.1 dL_law_2719 (by decide) ?_
    refine lc_lald C0 hC hI dL_law_2720 ?_
    rw [our (f := ciI) hw, updL0]
    refine lv_iload C0.1 C0.2.1 dL_law_2721 (lv_at hl 0 rfl) ?_
    refine lv_i2l C0.1 C0.2.1 dL_law_2723 rfl ?_
    refine W.lcmp C0.1 C0.2.1 dL_law_2724 ?_
    rw [show ciI w = v.toInt64 from by rw [h6 w hw], lg_eq]
    refine lv_if_eq (tgt := 2730) C0.1 C0.2.1 dL_law_2725 (by decide) (fun _ => ?_) (fun z => absurd rfl z)
    refine lv_goto (tgt := 2968) C0.1 C0.2.1 dL_law_2730 (by decide) ?_
    refine W.widen (k := ca + 40) (n := sa + 3200) (by omega) (by omega) ?_
    exact kk r1 T1 M1 Mm1 (ou ciI o q0) d J1 H locs ls hRl1 (lv_sub hl [2, 3, 4, 5, 6, 7] rfl) hI

def SC_lineAt (n : Nat) (Rl : Nat → Mem → Mem → Mem → Prop) : Prop := ∀ (j : Nat) (T M Mm : Mem) (x1 : Int32), j < 512 → Rl j T M Mm → ∃ (q0 : RX Int32) (v : Int32) (Mm' : Mem), F_X9_lineAt n T x1 M = some q0 ∧ F_X10_lineAt n x1 Mm = some (v, Mm') ∧ (∀ k, q0 = .inl k → k = 2) ∧ Mm' 0 0 = cx [2] q0 ∧ (∀ w, q0 = .inr w → w = v) ∧ Rl (j + 1) T M Mm'
set_option maxHeartbeats 4000000 in
theorem law_lineAt {p : Program} {l : Launch} (hl0 : l.stackTraces = false) {e : Env} {s : State} {m : MethodId} {args : Array Value} {below : List Frame} {meth : Method} {c : Code} {Q : State → Prop} (C0 : CallFix p m c code 9 s args LWg RL) {g : GG} (hC : CC g (AL s) s) {bs L : Nat} {xs : Nat → Int32} (hX : LX bs L xs s) {b bm : Nat → Nat} {q1 q2 n j ca sa : Nat} (hca : ca + 40 ≤ 603072) (hsa : sa + 3200 ≤ 7174250) {x5 : Int32} (hi : ∀ k : Int32, 0 ≤ k → k ≤ 4 → vp_in (x5 + k) L) (hj : j < 512) {Rl : Nat → Mem → Mem → Mem → Prop} (hS : SC_lineAt n Rl)
    {r : Nat → Nat} {T M Mm : Mem} {o : Nat → Int64} {d : Nat → UInt64} {J : va_W} (hRl : Rl j T M Mm) {H : Heap} {locs : List Loc} {ls : Array Slot} (hl : lv_has ls 9 [(5, .int x5), (0, .ref bs), (1, .ref (b 0)), (2, .ref (bm 0)), (3, .ref q1), (4, .ref q2)]) (hI : KI g (AL s) s (LWc g r b bm q1 q2 T M Mm o d J) H locs)
    (kk : ∀ (r : Nat → Nat) (T M Mm : Mem) (o : Nat → Int64) (d : Nat → UInt64) (J : va_W) (H : Heap) (locs : List Loc) (ls : Array Slot), Rl (j + 1) T M Mm → lv_has ls 9 [(5, .int x5), (0, .ref bs), (1, .ref (b 0)), (2, .ref (bm 0)), (3, .ref q1), (4, .ref q2)] → KI g (AL s) s (LWc g r b bm q1 q2 T M Mm o d J) H locs → W p l e room_1 s m args below meth c H locs (ca + 40) (sa + 3200) Q (F0 m 2968 ls [])) :
    W p l e room_1 s m args below meth c H locs ca sa Q (F0 m 2733 ls []) := by
  refine lv_aload_n C0.1 C0.2.1 dL_law_2733 rfl (lv_at hl 2 rfl) ?_
  refine lv_aload_n C0.1 C0.2.1 dL_law_2734 rfl (lv_at hl 1 rfl) ?_
  refine lv_iload C0.1 C0.2.1 dL_law_2735 (lv_at hl 0 rfl) ?_
  refine lv_iconst (v := 1) C0.1 C0.2.1 dL_law_2737 (by decide) ?_
  refine lv_iadd C0.1 C0.2.1 dL_law_2738 ?_
  refine l_xs C0 hX hI (hi 1 (by decide) (by decide)) dL_law_2739 ?_
  refine lv_aload_n C0.1 C0.2.1 dL_law_2740 rfl (lv_at hl 4 rfl) ?_
  obtain ⟨q0, v, Mm1, h1, h2, h3, h5, h6, hRl1⟩ := hS j T M Mm (xs (ix (x5 + 1))) hj hRl
  refine lc_h (As := [.ref (b 0), .int (xs (ix (x5 + 1))), .ref q1]) C0 hC hI (h_lineAt l hl0 g (J ++ pw 10 (shM g bm) bm Mm) r b H.size n T M q1 q2 o d (xs (ix (x5 + 1))) h1 h3) w_1644 w_1645 w_118 w_1646 ⟨rfl, rfl⟩ hd_L_lineAt ⟨Nat.le_of_ble_eq_true rfl, Nat.le_of_ble_eq_true rfl⟩ rfl hl.1 rfl (Nat.le_of_ble_eq_true rfl) dL_law_2741 ⟨by show _ ≤ 603072; omega, by show _ ≤ 7174250; omega⟩ (fun H locs hI => ?_)
  refine lv_istore (lv' := [(6, .int (cx [2] q0)), (5, .int x5), (0, .ref bs), (1, .ref (b 0)), (2, .ref (bm 0)), (3, .ref q1), (4, .ref q2)]) C0.1 C0.2.1 dL_law_2744 hl (by decide) rfl (fun ls hl => ?_)
  refine lv_aload_n C0.1 C0.2.1 dL_law_2746 rfl (lv_at hl 4 rfl) ?_
  refine lv_aload_n C0.1 C0.2.1 dL_law_2747 rfl (lv_at hl 2 rfl) ?_
  refine lv_iload C0.1 C0.2.1 dL_law_2748 (lv_at hl 1 rfl) ?_
  refine lv_iconst (v := 1) C0.1 C0.2.1 dL_law_2750 (by decide) ?_
  refine lv_iadd C0.1 C0.2.1 dL_law_2751 ?_
  refine l_xs C0 hX hI (hi 1 (by decide) (by decide)) dL_law_2752 ?_
  refine lm_i (As := [.int (xs (ix (x5 + 1)))]) C0 hC hI (c_X10_lineAt l g (xb g r T ++ (outs g q1 q2 (ou ciI o q0) d ++ J) ++ pw 372 (shI g r b) b M) bm H.size n Mm (xs (ix (x5 + 1))) h2) w_2152 w_2153 w_2154 w_132 w_2155 ⟨rfl, rfl⟩ hd_X10_lineAt ⟨Nat.le_of_ble_eq_true rfl, Nat.le_of_ble_eq_true rfl⟩ rfl rfl hl.1 rfl (Nat.le_of_ble_eq_true rfl) dL_law_2753 ⟨by show _ ≤ 603072; omega, by show _ ≤ 7174250; omega⟩ (fun H locs hI => ?_)
  refine lv_istore (lv' := [(7, .int v), (6, .int (cx [2] q0)), (5, .int x5), (0, .ref bs), (1, .ref (b 0)), (2, .ref (bm 0)), (3, .ref q1), (4, .ref q2)]) C0.1 C0.2.1 dL_law_2756 hl (by decide) rfl (fun ls hl => ?_)
  refine lv_aload_n C0.1 C0.2.1 dL_law_2758 rfl (lv_at hl 5 rfl) ?_
  refine lm_i (As := []) C0 hC hI (c_X10_thrown l g (xb g r T ++ (outs g q1 q2 (ou ciI o q0) d ++ J) ++ pw 372 (shI g r b) b M) bm H.size n Mm1 rfl) w_1752 w_1753 w_1754 w_132 w_1755 ⟨rfl, rfl⟩ hd_X10_thrown ⟨Nat.le_of_ble_eq_true rfl, Nat.le_of_ble_eq_true rfl⟩ rfl rfl hl.1 rfl (Nat.le_of_ble_eq_true rfl) dL_law_2759 ⟨by show _ ≤ 603072; omega, by show _ ≤ 7174250; omega⟩ (fun H locs hI => ?_)
  refine lv_iload C0.1 C0.2.1 dL_law_2762 (lv_at hl 1 rfl) ?_
  refine lv_icmp_eq (tgt := 2769) C0.1 C0.2.1 dL_law_2764 (by decide) (fun _ => ?_) (fun z => absurd h5 z)
  refine lv_iload C0.1 C0.2.1 dL_law_2769 (lv_at hl 1 rfl) ?_
  refine lv_if_ne (tgt := 2786) C0.1 C0.2.1 dL_law_2771 (by decide) (fun cz => ?_) (fun cz => ?_)
  · skip
    refine lv_goto (tgt := 2968) C0.1 C0.2.1 dL_law_2786 (by decide) ?_
    refine W.widen (k := ca + 40) (n := sa + 3200) (by omega) (by omega) ?_
    exact kk r T M Mm1 (ou ciI o q0) d J H locs ls hRl1 (lv_sub hl [2, 3, 4, 5, 6, 7] rfl) hI
  · obtain ⟨w, hw⟩ := cx_0 (by decide) cz
    refine lv_aload_n C0.1 C0.2.1 dL_law_2774 rfl (lv_at hl 6 rfl) ?_
    refine lv_iconst (v := 0) C0.1 C0.2.1 dL_law_2775 (by decide) ?_
    refine lc_lald C0 hC hI dL_law_2776 ?_
    rw [our (f := ciI) hw, updL0]
    refine lv_iload C0.1 C0.2.1 dL_law_2777 (lv_at hl 0 rfl) ?_
    refine lv_i2l C0.1 C0.2.1 dL_law_2779 rfl ?_
    refine W.lcmp C0.1 C0.2.1 dL_law_2780 ?_
    rw [show ciI w = v.toInt64 from by rw [h6 w hw], lg_eq]
    refine lv_if_eq (tgt := 2786) C0.1 C0.2.1 dL_law_2781 (by decide) (fun _ => ?_) (fun z => absurd rfl z)
    refine lv_goto (tgt := 2968) C0.1 C0.2.1 dL_law_2786 (by decide) ?_
    refine W.widen (k := ca + 40) (n := sa + 3200) (by omega) (by omega) ?_
    exact kk r T M Mm1 (ou ciI o q0) d J H locs ls hRl1 (lv_sub hl [2, 3, 4, 5, 6, 7] rfl) hI

def SC_meanSittingWeight (n : Nat) (Rl : Nat → Mem → Mem → Mem → Prop) : Prop := ∀ (j : Nat) (T M Mm : Mem), j < 512 → Rl j T M Mm → ∃ (q0 : RX UInt64) (v : UInt64) (Mm' : Mem), F_X9_meanSittingWeight n M = some q0 ∧ F_X10_meanSittingWeight n Mm = some (v, Mm') ∧ (∀ k, q0 = .inl k → k = 3) ∧ Mm' 0 0 = cx [3] q0 ∧ (∀ w, q0 = .inr w → w = v) ∧ (∀ w, q0 = .inr w → Op.cmpValue (FP.dcmp w w) .l = 0) ∧ Rl (j + 1) T M Mm'
set_option maxHeartbeats 4000000 in
theorem law_meanSittingWeight {p : Program} {l : Launch} (hl0 : l.stackTraces = false) {e : Env} {s : State} {m : MethodId} {args : Array Value} {below : List Frame} {meth : Method} {c : Code} {Q : State → Prop} (C0 : CallFix p m c code 9 s args LWg RL) {g : GG} (hC : CC g (AL s) s) {bs L : Nat} {xs : Nat → Int32} (hX : LX bs L xs s) {b bm : Nat → Nat} {q1 q2 n j ca sa : Nat} (hca : ca + 40 ≤ 603072) (hsa : sa + 3200 ≤ 7174250) {x5 : Int32} (hi : ∀ k : Int32, 0 ≤ k → k ≤ 4 → vp_in (x5 + k) L) (hj : j < 512) {Rl : Nat → Mem → Mem → Mem → Prop} (hS : SC_meanSittingWeight n Rl)
    {r : Nat → Nat} {T M Mm : Mem} {o : Nat → Int64} {d : Nat → UInt64} {J : va_W} (hRl : Rl j T M Mm) {H : Heap} {locs : List Loc} {ls : Array Slot} (hl : lv_has ls 9 [(5, .int x5), (0, .ref bs), (1, .ref (b 0)), (2, .ref (bm 0)), (3, .ref q1), (4, .ref q2)]) (hI : KI g (AL s) s (LWc g r b bm q1 q2 T M Mm o d J) H locs)
    (kk : ∀ (r : Nat → Nat) (T M Mm : Mem) (o : Nat → Int64) (d : Nat → UInt64) (J : va_W) (H : Heap) (locs : List Loc) (ls : Array Slot), Rl (j + 1) T M Mm → lv_has ls 9 [(5, .int x5), (0, .ref bs), (1, .ref (b 0)), (2, .ref (bm 0)), (3, .ref q1), (4, .ref q2)] → KI g (AL s) s (LWc g r b bm q1 q2 T M Mm o d J) H locs → W p l e room_1 s m args below meth c H locs (ca + 40) (sa + 3200) Q (F0 m 2968 ls [])) :
    W p l e room_1 s m args below meth c H locs ca sa Q (F0 m 2789 ls []) := by
  refine lv_aload_n C0.1 C0.2.1 dL_law_2789 rfl (lv_at hl 2 rfl) ?_
  refine lv_aload C0.1 C0.2.1 dL_law_2790 (lv_at hl 5 rfl) ?_
  obtain ⟨q0, v, Mm1, h1, h2, h3, h5, h6, h8, hRl1⟩ := hS j T M Mm  hj hRl
  refine lc_h (As := [.ref (b 0), .ref q2]) C0 hC hI (h_meanSittingWeight l hl0 g (J ++ pw 10 (shM g bm) bm Mm) r b H.size n T M q1 q2 o d h1 h3) w_1653 w_1654 w_118 w_1655 ⟨rfl, rfl⟩ hd_L_meanSittingWeight ⟨Nat.le_of_ble_eq_true rfl, Nat.le_of_ble_eq_true rfl⟩ rfl hl.1 rfl (Nat.le_of_ble_eq_true rfl) dL_law_2792 ⟨by show _ ≤ 603072; omega, by show _ ≤ 7174250; omega⟩ (fun H locs hI => ?_)
  refine lv_istore (lv' := [(6, .int (cx [3] q0)), (5, .int x5), (0, .ref bs), (1, .ref (b 0)), (2, .ref (bm 0)), (3, .ref q1), (4, .ref q2)]) C0.1 C0.2.1 dL_law_2795 hl (by decide) rfl (fun ls hl => ?_)
  refine lv_aload_n C0.1 C0.2.1 dL_law_2797 rfl (lv_at hl 4 rfl) ?_
  refine lm_d (As := []) C0 hC hI (c_X10_meanSittingWeight l g (xb g r T ++ (outs g q1 q2 o (od (fun v => v) d q0) ++ J) ++ pw 372 (shI g r b) b M) bm H.size n Mm h2) w_2156 w_2157 w_2158 w_132 w_2159 ⟨rfl, rfl⟩ hd_X10_meanSittingWeight ⟨Nat.le_of_ble_eq_true rfl, Nat.le_of_ble_eq_true rfl⟩ rfl rfl hl.1 rfl (Nat.le_of_ble_eq_true rfl) dL_law_2798 ⟨by show _ ≤ 603072; omega, by show _ ≤ 7174250; omega⟩ (fun H locs hI => ?_)
  refine lv_dstore (lv' := [(7, .double v), (6, .int (cx [3] q0)), (5, .int x5), (0, .ref bs), (1, .ref (b 0)), (2, .ref (bm 0)), (3, .ref q1), (4, .ref q2)]) C0.1 C0.2.1 dL_law_2801 hl (by decide) rfl (fun ls hl => ?_)
  refine lv_aload_n C0.1 C0.2.1 dL_law_2803 rfl (lv_at hl 5 rfl) ?_
  refine lm_i (As := []) C0 hC hI (c_X10_thrown l g (xb g r T ++ (outs g q1 q2 o (od (fun v => v) d q0) ++ J) ++ pw 372 (shI g r b) b M) bm H.size n Mm1 rfl) w_1752 w_1753 w_1754 w_132 w_1755 ⟨rfl, rfl⟩ hd_X10_thrown ⟨Nat.le_of_ble_eq_true rfl, Nat.le_of_ble_eq_true rfl⟩ rfl rfl hl.1 rfl (Nat.le_of_ble_eq_true rfl) dL_law_2804 ⟨by show _ ≤ 603072; omega, by show _ ≤ 7174250; omega⟩ (fun H locs hI => ?_)
  refine lv_iload C0.1 C0.2.1 dL_law_2807 (lv_at hl 1 rfl) ?_
  refine lv_icmp_eq (tgt := 2814) C0.1 C0.2.1 dL_law_2809 (by decide) (fun _ => ?_) (fun z => absurd h5 z)
  refine lv_iload C0.1 C0.2.1 dL_law_2814 (lv_at hl 1 rfl) ?_
  refine lv_if_ne (tgt := 2851) C0.1 C0.2.1 dL_law_2816 (by decide) (fun cz => ?_) (fun cz => ?_)
  · skip
    refine lv_goto (tgt := 2968) C0.1 C0.2.1 dL_law_2851 (by decide) ?_
    refine W.widen (k := ca + 40) (n := sa + 3200) (by omega) (by omega) ?_
    exact kk r T M Mm1 o (od (fun v => v) d q0) J H locs ls hRl1 (lv_sub hl [2, 3, 4, 5, 6, 7] rfl) hI
  · obtain ⟨w, hw⟩ := cx_0 (by decide) cz
    refine lv_aload C0.1 C0.2.1 dL_law_2819 (lv_at hl 7 rfl) ?_
    refine lv_iconst (v := 0) C0.1 C0.2.1 dL_law_2821 (by decide) ?_
    refine lc_dald C0 hC hI dL_law_2822 ?_
    rw [odr (f := (fun v => v)) hw, vfu0]
    show W p l e room_1 s m args below meth c H locs _ _ Q (F0 m 2823 ls [.double w])
    refine lv_dload C0.1 C0.2.1 dL_law_2823 (lv_at hl 0 rfl) ?_
    refine lv_dcmp C0.1 C0.2.1 dL_law_2825 ?_
    rw [show v = w from (h6 w hw).symm, h8 w hw]
    refine lv_if_eq (tgt := 2851) C0.1 C0.2.1 dL_law_2826 (by decide) (fun _ => ?_) (fun z => absurd rfl z)
    refine lv_goto (tgt := 2968) C0.1 C0.2.1 dL_law_2851 (by decide) ?_
    refine W.widen (k := ca + 40) (n := sa + 3200) (by omega) (by omega) ?_
    exact kk r T M Mm1 o (od (fun v => v) d q0) J H locs ls hRl1 (lv_sub hl [2, 3, 4, 5, 6, 7] rfl) hI

def SC_isConsistent (n : Nat) (Rl : Nat → Mem → Mem → Mem → Prop) : Prop := ∀ (j : Nat) (T M Mm : Mem), j < 512 → Rl j T M Mm → ∃ (M' : Mem) (v : Int32) (Mm' : Mem), F_X9_isConsistent n M = some (.inr v, M') ∧ F_X10_isConsistent n Mm = some (v, Mm') ∧ Rl (j + 1) T M' Mm'
set_option maxHeartbeats 4000000 in
theorem law_isConsistent {p : Program} {l : Launch} (hl0 : l.stackTraces = false) {e : Env} {s : State} {m : MethodId} {args : Array Value} {below : List Frame} {meth : Method} {c : Code} {Q : State → Prop} (C0 : CallFix p m c code 9 s args LWg RL) {g : GG} (hC : CC g (AL s) s) {bs L : Nat} {xs : Nat → Int32} (hX : LX bs L xs s) {b bm : Nat → Nat} {q1 q2 n j ca sa : Nat} (hca : ca + 40 ≤ 603072) (hsa : sa + 3200 ≤ 7174250) {x5 : Int32} (hi : ∀ k : Int32, 0 ≤ k → k ≤ 4 → vp_in (x5 + k) L) (hj : j < 512) {Rl : Nat → Mem → Mem → Mem → Prop} (hS : SC_isConsistent n Rl)
    {r : Nat → Nat} {T M Mm : Mem} {o : Nat → Int64} {d : Nat → UInt64} {J : va_W} (hRl : Rl j T M Mm) {H : Heap} {locs : List Loc} {ls : Array Slot} (hl : lv_has ls 9 [(5, .int x5), (0, .ref bs), (1, .ref (b 0)), (2, .ref (bm 0)), (3, .ref q1), (4, .ref q2)]) (hI : KI g (AL s) s (LWc g r b bm q1 q2 T M Mm o d J) H locs)
    (kk : ∀ (r : Nat → Nat) (T M Mm : Mem) (o : Nat → Int64) (d : Nat → UInt64) (J : va_W) (H : Heap) (locs : List Loc) (ls : Array Slot), Rl (j + 1) T M Mm → lv_has ls 9 [(5, .int x5), (0, .ref bs), (1, .ref (b 0)), (2, .ref (bm 0)), (3, .ref q1), (4, .ref q2)] → KI g (AL s) s (LWc g r b bm q1 q2 T M Mm o d J) H locs → W p l e room_1 s m args below meth c H locs (ca + 40) (sa + 3200) Q (F0 m 2968 ls [])) :
    W p l e room_1 s m args below meth c H locs ca sa Q (F0 m 2854 ls []) := by
  refine lv_aload_n C0.1 C0.2.1 dL_law_2854 rfl (lv_at hl 2 rfl) ?_
  obtain ⟨M1, v, Mm1, h1, h2, hRl1⟩ := hS j T M Mm hj hRl
  refine lc_i (As := []) C0 hC hI (p_X9_isConsistent l g (xb g r T ++ (outs g q1 q2 o d ++ (J ++ pw 10 (shM g bm) bm Mm))) r b H.size n M h1) w_471 w_472 w_473 w_119 w_474 ⟨rfl, rfl⟩ hd_X9_isConsistent ⟨Nat.le_of_ble_eq_true rfl, Nat.le_of_ble_eq_true rfl⟩ rfl rfl hl.1 rfl (Nat.le_of_ble_eq_true rfl) dL_law_2855 ⟨by show _ ≤ 603072; omega, by show _ ≤ 7174250; omega⟩ (fun H locs hI => ?_)
  refine lv_aload_n C0.1 C0.2.1 dL_law_2858 rfl (lv_at hl 3 rfl) ?_
  refine lm_i (As := []) C0 hC hI (c_X10_isConsistent l g (xb g r T ++ (outs g q1 q2 o d ++ J) ++ pw 372 (shI g r b) b M1) bm H.size n Mm h2) w_2160 w_2161 w_2162 w_132 w_2163 ⟨rfl, rfl⟩ hd_X10_isConsistent ⟨Nat.le_of_ble_eq_true rfl, Nat.le_of_ble_eq_true rfl⟩ rfl rfl hl.1 rfl (Nat.le_of_ble_eq_true rfl) dL_law_2859 ⟨by show _ ≤ 603072; omega, by show _ ≤ 7174250; omega⟩ (fun H locs hI => ?_)
  refine lv_icmp_eq (tgt := 2968) C0.1 C0.2.1 dL_law_2862 (by decide) (fun _ => ?_) (fun z => absurd rfl z)
  refine W.widen (k := ca + 40) (n := sa + 3200) (by omega) (by omega) ?_
  exact kk r T M1 Mm1 o d J H locs ls hRl1 (lv_sub hl [0, 1, 2, 3, 4, 5] rfl) hI

def SC_undo (n : Nat) (Rl : Nat → Mem → Mem → Mem → Prop) : Prop := ∀ (j : Nat) (T M Mm : Mem), j < 512 → Rl j T M Mm → ∃ (q0 : RX Int32) (M' : Mem) (v : Int32) (Mm' : Mem), F_X9_undo n M = some (q0, M') ∧ F_X10_undo n Mm = some (v, Mm') ∧ (∀ k, q0 = .inl k → k = 0) ∧ Mm' 0 0 = cx [0] q0 ∧ (∀ w, q0 = .inr w → w = v) ∧ Rl (j + 1) T M' Mm'
set_option maxHeartbeats 4000000 in
theorem law_undo {p : Program} {l : Launch} (hl0 : l.stackTraces = false) {e : Env} {s : State} {m : MethodId} {args : Array Value} {below : List Frame} {meth : Method} {c : Code} {Q : State → Prop} (C0 : CallFix p m c code 9 s args LWg RL) {g : GG} (hC : CC g (AL s) s) {bs L : Nat} {xs : Nat → Int32} (hX : LX bs L xs s) {b bm : Nat → Nat} {q1 q2 n j ca sa : Nat} (hca : ca + 40 ≤ 603072) (hsa : sa + 3200 ≤ 7174250) {x5 : Int32} (hi : ∀ k : Int32, 0 ≤ k → k ≤ 4 → vp_in (x5 + k) L) (hj : j < 512) {Rl : Nat → Mem → Mem → Mem → Prop} (hS : SC_undo n Rl)
    {r : Nat → Nat} {T M Mm : Mem} {o : Nat → Int64} {d : Nat → UInt64} {J : va_W} (hRl : Rl j T M Mm) {H : Heap} {locs : List Loc} {ls : Array Slot} (hl : lv_has ls 9 [(5, .int x5), (0, .ref bs), (1, .ref (b 0)), (2, .ref (bm 0)), (3, .ref q1), (4, .ref q2)]) (hI : KI g (AL s) s (LWc g r b bm q1 q2 T M Mm o d J) H locs)
    (kk : ∀ (r : Nat → Nat) (T M Mm : Mem) (o : Nat → Int64) (d : Nat → UInt64) (J : va_W) (H : Heap) (locs : List Loc) (ls : Array Slot), Rl (j + 1) T M Mm → lv_has ls 9 [(5, .int x5), (0, .ref bs), (1, .ref (b 0)), (2, .ref (bm 0)), (3, .ref q1), (4, .ref q2)] → KI g (AL s) s (LWc g r b bm q1 q2 T M Mm o d J) H locs → W p l e room_1 s m args below meth c H locs (ca + 40) (sa + 3200) Q (F0 m 2968 ls [])) :
    W p l e room_1 s m args below meth c H locs ca sa Q (F0 m 2867 ls []) := by
  refine lv_aload_n C0.1 C0.2.1 dL_law_2867 rfl (lv_at hl 2 rfl) ?_
  refine lv_aload_n C0.1 C0.2.1 dL_law_2868 rfl (lv_at hl 4 rfl) ?_
  obtain ⟨q0, M1, v, Mm1, h1, h2, h3, h5, h6, hRl1⟩ := hS j T M Mm  hj hRl
  refine lc_h (As := [.ref (b 0), .ref q1]) C0 hC hI (h_undo l hl0 g (J ++ pw 10 (shM g bm) bm Mm) r b H.size n T M q1 q2 o d h1 h3) w_1661 w_1662 w_118 w_1663 ⟨rfl, rfl⟩ hd_L_undo ⟨Nat.le_of_ble_eq_true rfl, Nat.le_of_ble_eq_true rfl⟩ rfl hl.1 rfl (Nat.le_of_ble_eq_true rfl) dL_law_2869 ⟨by show _ ≤ 603072; omega, by show _ ≤ 7174250; omega⟩ (fun H locs hI => ?_)
  refine lv_istore (lv' := [(6, .int (cx [0] q0)), (5, .int x5), (0, .ref bs), (1, .ref (b 0)), (2, .ref (bm 0)), (3, .ref q1), (4, .ref q2)]) C0.1 C0.2.1 dL_law_2872 hl (by decide) rfl (fun ls hl => ?_)
  refine lv_aload_n C0.1 C0.2.1 dL_law_2874 rfl (lv_at hl 4 rfl) ?_
  refine lm_i (As := []) C0 hC hI (c_X10_undo l g (xb g r T ++ (outs g q1 q2 (ou ciI o q0) d ++ J) ++ pw 372 (shI g r b) b M1) bm H.size n Mm h2) w_2164 w_2165 w_2166 w_132 w_2167 ⟨rfl, rfl⟩ hd_X10_undo ⟨Nat.le_of_ble_eq_true rfl, Nat.le_of_ble_eq_true rfl⟩ rfl rfl hl.1 rfl (Nat.le_of_ble_eq_true rfl) dL_law_2875 ⟨by show _ ≤ 603072; omega, by show _ ≤ 7174250; omega⟩ (fun H locs hI => ?_)
  refine lv_istore (lv' := [(7, .int v), (6, .int (cx [0] q0)), (5, .int x5), (0, .ref bs), (1, .ref (b 0)), (2, .ref (bm 0)), (3, .ref q1), (4, .ref q2)]) C0.1 C0.2.1 dL_law_2878 hl (by decide) rfl (fun ls hl => ?_)
  refine lv_aload_n C0.1 C0.2.1 dL_law_2880 rfl (lv_at hl 5 rfl) ?_
  refine lm_i (As := []) C0 hC hI (c_X10_thrown l g (xb g r T ++ (outs g q1 q2 (ou ciI o q0) d ++ J) ++ pw 372 (shI g r b) b M1) bm H.size n Mm1 rfl) w_1752 w_1753 w_1754 w_132 w_1755 ⟨rfl, rfl⟩ hd_X10_thrown ⟨Nat.le_of_ble_eq_true rfl, Nat.le_of_ble_eq_true rfl⟩ rfl rfl hl.1 rfl (Nat.le_of_ble_eq_true rfl) dL_law_2881 ⟨by show _ ≤ 603072; omega, by show _ ≤ 7174250; omega⟩ (fun H locs hI => ?_)
  refine lv_iload C0.1 C0.2.1 dL_law_2884 (lv_at hl 1 rfl) ?_
  refine lv_icmp_eq (tgt := 2891) C0.1 C0.2.1 dL_law_2886 (by decide) (fun _ => ?_) (fun z => absurd h5 z)
  refine lv_iload C0.1 C0.2.1 dL_law_2891 (lv_at hl 1 rfl) ?_
  refine lv_if_ne (tgt := 2908) C0.1 C0.2.1 dL_law_2893 (by decide) (fun cz => ?_) (fun cz => ?_)
  · skip
    refine lv_goto (tgt := 2968) C0.1 C0.2.1 dL_law_2908 (by decide) ?_
    refine W.widen (k := ca + 40) (n := sa + 3200) (by omega) (by omega) ?_
    exact kk r T M1 Mm1 (ou ciI o q0) d J H locs ls hRl1 (lv_sub hl [2, 3, 4, 5, 6, 7] rfl) hI
  · obtain ⟨w, hw⟩ := cx_0 (by decide) cz
    refine lv_aload_n C0.1 C0.2.1 dL_law_2896 rfl (lv_at hl 6 rfl) ?_
    refine lv_iconst (v := 0) C0.1 C0.2.1 dL_law_2897 (by decide) ?_
    refine lc_lald C0 hC hI dL_law_2898 ?_
    rw [our (f := ciI) hw, updL0]
    refine lv_iload C0.1 C0.2.1 dL_law_2899 (lv_at hl 0 rfl) ?_
    refine lv_i2l C0.1 C0.2.1 dL_law_2901 rfl ?_
    refine W.lcmp C0.1 C0.2.1 dL_law_2902 ?_
    rw [show ciI w = v.toInt64 from by rw [h6 w hw], lg_eq]
    refine lv_if_eq (tgt := 2908) C0.1 C0.2.1 dL_law_2903 (by decide) (fun _ => ?_) (fun z => absurd rfl z)
    refine lv_goto (tgt := 2968) C0.1 C0.2.1 dL_law_2908 (by decide) ?_
    refine W.widen (k := ca + 40) (n := sa + 3200) (by omega) (by omega) ?_
    exact kk r T M1 Mm1 (ou ciI o q0) d J H locs ls hRl1 (lv_sub hl [2, 3, 4, 5, 6, 7] rfl) hI

def SC_save (n : Nat) (Rl : Nat → Mem → Mem → Mem → Prop) : Prop := ∀ (j : Nat) (T M Mm : Mem), j < 512 → Rl j T M Mm → ∃ (M' : Mem) (v : Int32) (Mm' : Mem), F_X9_save n M = some (v, M') ∧ F_X10_save n Mm = some (v, Mm') ∧ Rl (j + 1) T M' Mm'
set_option maxHeartbeats 4000000 in
theorem law_save {p : Program} {l : Launch} (hl0 : l.stackTraces = false) {e : Env} {s : State} {m : MethodId} {args : Array Value} {below : List Frame} {meth : Method} {c : Code} {Q : State → Prop} (C0 : CallFix p m c code 9 s args LWg RL) {g : GG} (hC : CC g (AL s) s) {bs L : Nat} {xs : Nat → Int32} (hX : LX bs L xs s) {b bm : Nat → Nat} {q1 q2 n j ca sa : Nat} (hca : ca + 40 ≤ 603072) (hsa : sa + 3200 ≤ 7174250) {x5 : Int32} (hi : ∀ k : Int32, 0 ≤ k → k ≤ 4 → vp_in (x5 + k) L) (hj : j < 512) {Rl : Nat → Mem → Mem → Mem → Prop} (hS : SC_save n Rl)
    {r : Nat → Nat} {T M Mm : Mem} {o : Nat → Int64} {d : Nat → UInt64} {J : va_W} (hRl : Rl j T M Mm) {H : Heap} {locs : List Loc} {ls : Array Slot} (hl : lv_has ls 9 [(5, .int x5), (0, .ref bs), (1, .ref (b 0)), (2, .ref (bm 0)), (3, .ref q1), (4, .ref q2)]) (hI : KI g (AL s) s (LWc g r b bm q1 q2 T M Mm o d J) H locs)
    (kk : ∀ (r : Nat → Nat) (T M Mm : Mem) (o : Nat → Int64) (d : Nat → UInt64) (J : va_W) (H : Heap) (locs : List Loc) (ls : Array Slot), Rl (j + 1) T M Mm → lv_has ls 9 [(5, .int x5), (0, .ref bs), (1, .ref (b 0)), (2, .ref (bm 0)), (3, .ref q1), (4, .ref q2)] → KI g (AL s) s (LWc g r b bm q1 q2 T M Mm o d J) H locs → W p l e room_1 s m args below meth c H locs (ca + 40) (sa + 3200) Q (F0 m 2968 ls [])) :
    W p l e room_1 s m args below meth c H locs ca sa Q (F0 m 2911 ls []) := by
  refine lv_aload_n C0.1 C0.2.1 dL_law_2911 rfl (lv_at hl 2 rfl) ?_
  obtain ⟨M1, v, Mm1, h1, h2, hRl1⟩ := hS j T M Mm hj hRl
  refine lc_i (As := []) C0 hC hI (c_X9_save l g (xb g r T ++ (outs g q1 q2 o d ++ (J ++ pw 10 (shM g bm) bm Mm))) r b H.size n M h1) w_730 w_731 w_732 w_119 w_733 ⟨rfl, rfl⟩ hd_X9_save ⟨Nat.le_of_ble_eq_true rfl, Nat.le_of_ble_eq_true rfl⟩ rfl rfl hl.1 rfl (Nat.le_of_ble_eq_true rfl) dL_law_2912 ⟨by show _ ≤ 603072; omega, by show _ ≤ 7174250; omega⟩ (fun H locs hI => ?_)
  refine lv_aload_n C0.1 C0.2.1 dL_law_2915 rfl (lv_at hl 3 rfl) ?_
  refine lm_i (As := []) C0 hC hI (c_X10_save l g (xb g r T ++ (outs g q1 q2 o d ++ J) ++ pw 372 (shI g r b) b M1) bm H.size n Mm h2) w_2168 w_2169 w_2170 w_132 w_2171 ⟨rfl, rfl⟩ hd_X10_save ⟨Nat.le_of_ble_eq_true rfl, Nat.le_of_ble_eq_true rfl⟩ rfl rfl hl.1 rfl (Nat.le_of_ble_eq_true rfl) dL_law_2916 ⟨by show _ ≤ 603072; omega, by show _ ≤ 7174250; omega⟩ (fun H locs hI => ?_)
  refine lv_icmp_eq (tgt := 2968) C0.1 C0.2.1 dL_law_2919 (by decide) (fun _ => ?_) (fun z => absurd rfl z)
  refine W.widen (k := ca + 40) (n := sa + 3200) (by omega) (by omega) ?_
  exact kk r T M1 Mm1 o d J H locs ls hRl1 (lv_sub hl [0, 1, 2, 3, 4, 5] rfl) hI

def SC_restore (n : Nat) (Rl : Nat → Mem → Mem → Mem → Prop) : Prop := ∀ (j : Nat) (T M Mm : Mem), j < 512 → Rl j T M Mm → ∃ (q0 : RX Int32) (M' : Mem) (v : Int32) (Mm' : Mem), F_X9_restore n M = some (q0, M') ∧ F_X10_restore n Mm = some (v, Mm') ∧ (∀ k, q0 = .inl k → k = 0) ∧ Mm' 0 0 = cx [0] q0 ∧ (∀ w, q0 = .inr w → w = v) ∧ Rl (j + 1) T M' Mm'
set_option maxHeartbeats 4000000 in
theorem law_restore {p : Program} {l : Launch} (hl0 : l.stackTraces = false) {e : Env} {s : State} {m : MethodId} {args : Array Value} {below : List Frame} {meth : Method} {c : Code} {Q : State → Prop} (C0 : CallFix p m c code 9 s args LWg RL) {g : GG} (hC : CC g (AL s) s) {bs L : Nat} {xs : Nat → Int32} (hX : LX bs L xs s) {b bm : Nat → Nat} {q1 q2 n j ca sa : Nat} (hca : ca + 40 ≤ 603072) (hsa : sa + 3200 ≤ 7174250) {x5 : Int32} (hi : ∀ k : Int32, 0 ≤ k → k ≤ 4 → vp_in (x5 + k) L) (hj : j < 512) {Rl : Nat → Mem → Mem → Mem → Prop} (hS : SC_restore n Rl)
    {r : Nat → Nat} {T M Mm : Mem} {o : Nat → Int64} {d : Nat → UInt64} {J : va_W} (hRl : Rl j T M Mm) {H : Heap} {locs : List Loc} {ls : Array Slot} (hl : lv_has ls 9 [(5, .int x5), (0, .ref bs), (1, .ref (b 0)), (2, .ref (bm 0)), (3, .ref q1), (4, .ref q2)]) (hI : KI g (AL s) s (LWc g r b bm q1 q2 T M Mm o d J) H locs)
    (kk : ∀ (r : Nat → Nat) (T M Mm : Mem) (o : Nat → Int64) (d : Nat → UInt64) (J : va_W) (H : Heap) (locs : List Loc) (ls : Array Slot), Rl (j + 1) T M Mm → lv_has ls 9 [(5, .int x5), (0, .ref bs), (1, .ref (b 0)), (2, .ref (bm 0)), (3, .ref q1), (4, .ref q2)] → KI g (AL s) s (LWc g r b bm q1 q2 T M Mm o d J) H locs → W p l e room_1 s m args below meth c H locs (ca + 40) (sa + 3200) Q (F0 m 2968 ls [])) :
    W p l e room_1 s m args below meth c H locs ca sa Q (F0 m 2924 ls []) := by
  refine lv_aload_n C0.1 C0.2.1 dL_law_2924 rfl (lv_at hl 2 rfl) ?_
  refine lv_aload_n C0.1 C0.2.1 dL_law_2925 rfl (lv_at hl 4 rfl) ?_
  obtain ⟨q0, M1, v, Mm1, h1, h2, h3, h5, h6, hRl1⟩ := hS j T M Mm  hj hRl
  refine lc_h (As := [.ref (b 0), .ref q1]) C0 hC hI (h_restore l hl0 g (J ++ pw 10 (shM g bm) bm Mm) r b H.size n T M q1 q2 o d h1 h3) w_1673 w_1674 w_118 w_1675 ⟨rfl, rfl⟩ hd_L_restore ⟨Nat.le_of_ble_eq_true rfl, Nat.le_of_ble_eq_true rfl⟩ rfl hl.1 rfl (Nat.le_of_ble_eq_true rfl) dL_law_2926 ⟨by show _ ≤ 603072; omega, by show _ ≤ 7174250; omega⟩ (fun H locs hI => ?_)
  refine lv_istore (lv' := [(6, .int (cx [0] q0)), (5, .int x5), (0, .ref bs), (1, .ref (b 0)), (2, .ref (bm 0)), (3, .ref q1), (4, .ref q2)]) C0.1 C0.2.1 dL_law_2929 hl (by decide) rfl (fun ls hl => ?_)
  refine lv_aload_n C0.1 C0.2.1 dL_law_2931 rfl (lv_at hl 4 rfl) ?_
  refine lm_i (As := []) C0 hC hI (c_X10_restore l g (xb g r T ++ (outs g q1 q2 (ou ciI o q0) d ++ J) ++ pw 372 (shI g r b) b M1) bm H.size n Mm h2) w_2172 w_2173 w_2174 w_132 w_2175 ⟨rfl, rfl⟩ hd_X10_restore ⟨Nat.le_of_ble_eq_true rfl, Nat.le_of_ble_eq_true rfl⟩ rfl rfl hl.1 rfl (Nat.le_of_ble_eq_true rfl) dL_law_2932 ⟨by show _ ≤ 603072; omega, by show _ ≤ 7174250; omega⟩ (fun H locs hI => ?_)
  refine lv_istore (lv' := [(7, .int v), (6, .int (cx [0] q0)), (5, .int x5), (0, .ref bs), (1, .ref (b 0)), (2, .ref (bm 0)), (3, .ref q1), (4, .ref q2)]) C0.1 C0.2.1 dL_law_2935 hl (by decide) rfl (fun ls hl => ?_)
  refine lv_aload_n C0.1 C0.2.1 dL_law_2937 rfl (lv_at hl 5 rfl) ?_
  refine lm_i (As := []) C0 hC hI (c_X10_thrown l g (xb g r T ++ (outs g q1 q2 (ou ciI o q0) d ++ J) ++ pw 372 (shI g r b) b M1) bm H.size n Mm1 rfl) w_1752 w_1753 w_1754 w_132 w_1755 ⟨rfl, rfl⟩ hd_X10_thrown ⟨Nat.le_of_ble_eq_true rfl, Nat.le_of_ble_eq_true rfl⟩ rfl rfl hl.1 rfl (Nat.le_of_ble_eq_true rfl) dL_law_2938 ⟨by show _ ≤ 603072; omega, by show _ ≤ 7174250; omega⟩ (fun H locs hI => ?_)
  refine lv_iload C0.1 C0.2.1 dL_law_2941 (lv_at hl 1 rfl) ?_
  refine lv_icmp_eq (tgt := 2948) C0.1 C0.2.1 dL_law_2943 (by decide) (fun _ => ?_) (fun z => absurd h5 z)
  refine lv_iload C0.1 C0.2.1 dL_law_2948 (lv_at hl 1 rfl) ?_
  refine lv_if_ne (tgt := 2965) C0.1 C0.2.1 dL_law_2950 (by decide) (fun cz => ?_) (fun cz => ?_)
  · skip
    refine lv_goto (tgt := 2968) C0.1 C0.2.1 dL_law_2965 (by decide) ?_
    refine W.widen (k := ca + 40) (n := sa + 3200) (by omega) (by omega) ?_
    exact kk r T M1 Mm1 (ou ciI o q0) d J H locs ls hRl1 (lv_sub hl [2, 3, 4, 5, 6, 7] rfl) hI
  · obtain ⟨w, hw⟩ := cx_0 (by decide) cz
    refine lv_aload_n C0.1 C0.2.1 dL_law_2953 rfl (lv_at hl 6 rfl) ?_
    refine lv_iconst (v := 0) C0.1 C0.2.1 dL_law_2954 (by decide) ?_
    refine lc_lald C0 hC hI dL_law_2955 ?_
    rw [our (f := ciI) hw, updL0]
    refine lv_iload C0.1 C0.2.1 dL_law_2956 (lv_at hl 0 rfl) ?_
    refine lv_i2l C0.1 C0.2.1 dL_law_2958 rfl ?_
    refine W.lcmp C0.1 C0.2.1 dL_law_2959 ?_
    rw [show ciI w = v.toInt64 from by rw [h6 w hw], lg_eq]
    refine lv_if_eq (tgt := 2965) C0.1 C0.2.1 dL_law_2960 (by decide) (fun _ => ?_) (fun z => absurd rfl z)
    refine lv_goto (tgt := 2968) C0.1 C0.2.1 dL_law_2965 (by decide) ?_
    refine W.widen (k := ca + 40) (n := sa + 3200) (by omega) (by omega) ?_
    exact kk r T M1 Mm1 (ou ciI o q0) d J H locs ls hRl1 (lv_sub hl [2, 3, 4, 5, 6, 7] rfl) hI
