/-! ===== worlds as sets of cells ===== -/
theorem vP_iff {D : va_G} {cl : List vw_C} {ws : va_W} {H : Heap} : va_P D cl ws H ↔ ∀ q ∈ ws, va_at D cl q H :=
  ⟨fun h q hq => by obtain ⟨k, hk⟩ := List.getElem?_of_mem hq; exact h k q hk, fun h k q hk => h q (List.mem_of_getElem? hk)⟩
theorem vD_iff {A : Nat → Prop} {ws : va_W} : va_D A ws ↔ (ws.map (fun q => q.1)).Nodup ∧ ∀ q ∈ ws, A q.1 := by
  refine ⟨fun h => ⟨?_, fun q hq => ?_⟩, fun h => ⟨?_, fun k q hk => h.2 q (List.mem_of_getElem? hk)⟩⟩
  · rw [List.Nodup, List.pairwise_map, List.pairwise_iff_getElem]
    intro i j hi hj hij e
    exact absurd (h.1 i j _ _ (List.getElem?_eq_getElem hi) (List.getElem?_eq_getElem hj) e) (Nat.ne_of_lt hij)
  · obtain ⟨k, hk⟩ := List.getElem?_of_mem hq
    exact h.2 k q hk
  · intro i j p q hi hj e
    have hn := h.1
    rw [List.Nodup, List.pairwise_map, List.pairwise_iff_getElem] at hn
    obtain ⟨hi', rfl⟩ := List.getElem?_eq_some_iff.mp hi
    obtain ⟨hj', rfl⟩ := List.getElem?_eq_some_iff.mp hj
    rcases Nat.lt_trichotomy i j with h1 | h1 | h1
    · exact absurd e (hn i j hi' hj' h1)
    · exact h1
    · exact absurd e.symm (hn j i hj' hi' h1)
theorem AA_iff {X : va_W} {b : Nat → Nat} {N sz q : Nat} : AA X b N sz q ↔ q ∈ X.map (fun p => p.1) ∨ (∃ k : Nat, k < N ∧ b k = q) ∨ sz ≤ q := by
  unfold AA
  constructor
  · intro h
    rcases h with ⟨k, e, h⟩ | h
    · exact Or.inl (List.mem_map.mpr ⟨(q, e), List.mem_of_getElem? h, rfl⟩)
    · exact Or.inr h
  · intro h
    rcases h with h | h
    · obtain ⟨p, hp, rfl⟩ := List.mem_map.mp h
      obtain ⟨k, hk⟩ := List.getElem?_of_mem hp
      exact Or.inl ⟨k, p.2, hk⟩
    · exact Or.inr h
theorem AA_ext {X X' : va_W} {b : Nat → Nat} {N sz : Nat} (h : ∀ q : Nat, q ∈ X'.map (fun p => p.1) ∨ sz ≤ q ↔ q ∈ X.map (fun p => p.1) ∨ sz ≤ q) : AA X' b N sz = AA X b N sz := by
  funext q
  apply propext
  rw [AA_iff, AA_iff]
  have h1 := h q
  constructor
  · intro z
    rcases z with z | z | z
    · rcases h1.mp (Or.inl z) with y | y
      · exact Or.inl y
      · exact Or.inr (Or.inr y)
    · exact Or.inr (Or.inl z)
    · exact Or.inr (Or.inr z)
  · intro z
    rcases z with z | z | z
    · rcases h1.mpr (Or.inl z) with y | y
      · exact Or.inl y
      · exact Or.inr (Or.inr y)
    · exact Or.inr (Or.inl z)
    · exact Or.inr (Or.inr z)
theorem AA_low {X X' : va_W} {b : Nat → Nat} {N n m : Nat} (h : AA X' b N n = AA X b N n) (hm : m ≤ n) : AA X' b N m = AA X b N m := by
  have key : ∀ (Y Z : va_W), AA Y b N n = AA Z b N n → ∀ q, AA Y b N m q → AA Z b N m q := by
    intro Y Z e q hq
    by_cases h1 : m ≤ q
    · exact AA_iff.mpr (Or.inr (Or.inr h1))
    · have h2 : AA Y b N n q := by
        rcases AA_iff.mp hq with z | z | z
        · exact AA_iff.mpr (Or.inl z)
        · exact AA_iff.mpr (Or.inr (Or.inl z))
        · exact absurd z h1
      rw [e] at h2
      rcases AA_iff.mp h2 with z | z | z
      · exact AA_iff.mpr (Or.inl z)
      · exact AA_iff.mpr (Or.inr (Or.inl z))
      · exact absurd (Nat.le_trans hm z) h1
  funext q
  exact propext ⟨key X' X h q, key X X' h.symm q⟩
theorem pw_inj {A : Nat → Prop} {Y : va_W} {N : Nat} {sh : Shp} {b : Nat → Nat} {M : Mem} (h : va_D A (Y ++ pw N sh b M)) {k j : Nat} (hk : k < N) (hj : j < N) (e : b k = b j) : k = j := by
  have h1 := h.1 _ _ _ _ (pw_get Y hk) (pw_get Y hj) e
  omega
theorem pw_off {A : Nat → Prop} {Y : va_W} {N : Nat} {sh : Shp} {b : Nat → Nat} {M : Mem} (h : va_D A (Y ++ pw N sh b M)) {q : Nat × va_E} (hq : q ∈ Y) {k : Nat} (hk : k < N) : q.1 ≠ b k := by
  intro e
  obtain ⟨i, hi⟩ := List.getElem?_of_mem hq
  have hl : i < Y.length := (List.getElem?_eq_some_iff.mp hi).1
  have h1 := h.1 i (Y.length + k) _ _ (by rw [List.getElem?_append_left hl]; exact hi) (pw_get Y hk) e
  omega
theorem pw_mem {N : Nat} {sh : Shp} {b : Nat → Nat} {M : Mem} {q : Nat × va_E} : q ∈ pw N sh b M ↔ ∃ k : Nat, k < N ∧ q = (b k, sh k (M k)) := by
  unfold pw
  rw [List.mem_map]
  exact ⟨fun ⟨k, hk, e⟩ => ⟨k, List.mem_range.mp hk, e.symm⟩, fun ⟨k, hk, e⟩ => ⟨k, List.mem_range.mpr hk, e.symm⟩⟩
theorem vP_set {D : va_G} {cl : List vw_C} {ws : va_W} {H : Heap} {i a : Nat} {e0 e : va_E} (h : va_P D cl (ws.set i (a, e)) H) (hi : ws[i]? = some (a, e0)) : va_at D cl (a, e) H ∧ ∀ q ∈ ws, q.1 ≠ a → va_at D cl q H := by
  have hl : i < ws.length := (List.getElem?_eq_some_iff.mp hi).1
  refine ⟨h i _ (by rw [List.getElem?_set_self hl]), fun q hq hne => ?_⟩
  obtain ⟨j, hj⟩ := List.getElem?_of_mem hq
  have hij : i ≠ j := fun z => by subst z; rw [hi] at hj; cases hj; exact hne rfl
  exact h j q (by rw [List.getElem?_set_ne hij]; exact hj)
/-! ===== growth: the byte arrays move ===== -/
def GX (g : GG) (X0 : va_W) (A0 : Nat → Prop) (r : Nat → Nat) (T : Mem) (X : va_W) (b : Nat → Nat) (s : State) : Prop :=
  CX g (xb g r T ++ X) 372 (shI g r b) b s ∧ AA (xb g r T ++ X) b 372 s.heap.size = A0 ∧ ∃ J : va_W, X = J ++ X0
def PoG (g : GG) (X0 : va_W) (A0 : Nat → Prop) (b : Nat → Nat) (sz : Nat) (T' M' : Mem) (t : State) : Prop :=
  ∃ (r' : Nat → Nat) (X' : va_W), (∃ J : va_W, X' = J ++ X0) ∧ va_P g.1 vwCl (xb g r' T' ++ X' ++ pw 372 (shI g r' b) b M') t.heap ∧ va_D (fun _ => True) (xb g r' T' ++ X' ++ pw 372 (shI g r' b) b M') ∧ AA (xb g r' T' ++ X') b 372 sz = A0
section GROW
variable {p : Program} {l : Launch} {e : Env} {R : Room} {s : State} {m : MethodId} {args : Array Value} {below : List Frame} {meth : Method} {c : Code} {H : Heap} {locs : List Loc} {cells slots : Nat} {Q : State → Prop}
variable {cc : ByteArray} {nL : Nat} {own : String} {pc : Nat} {ls : Array Slot} {rest st0 : List Value} {g : GG} {X X0 : va_W} {A0 : Nat → Prop} {r b : Nat → Nat} {T T' M M' : Mem} {av : Array Value} {mc ms : Nat}
theorem GX.go (C1 : CX g (xb g r T ++ X) 372 (shI g r b) b s) : GX g X (AA (xb g r T ++ X) b 372 s.heap.size) r T X b s := ⟨C1, rfl, [], rfl⟩
theorem GX.post (hG : GX g X0 A0 r T X b s) (hI : PI g (xb g r T ++ X) 372 (shI g r b) b s M H locs) {t : State} (ht : t.heap = H) : PoG g X0 A0 b s.heap.size T M t :=
  ⟨r, X, hG.2.2, by rw [ht]; exact hI.1, (hG.1.2.1 M).weaken (fun _ _ _ _ => trivial), hG.2.1⟩
theorem GX.call (hG : GX g X0 A0 r T X b s) (hI : PI g (xb g r T ++ X) 372 (shI g r b) b s M H locs) {t : State} {H1 : Heap} {locs1 : List Loc} (ht : t.heap = H1) (hp : PoG g X (AA (xb g r T ++ X) b 372 H.size) b H.size T' M' t) (hS : va_S (AA (xb g r T ++ X) b 372 s.heap.size) s.heap H1 locs1) :
    ∃ (r' : Nat → Nat) (X' : va_W), GX g X0 A0 r' T' X' b s ∧ PI g (xb g r' T' ++ X') 372 (shI g r' b) b s M' H1 locs1 := by
  obtain ⟨r', X', ⟨J, hJ⟩, hP, hD, hA⟩ := hp
  obtain ⟨C1, hA0, J0, hJ0⟩ := hG
  have hA' := AA_low hA hI.2.1
  refine ⟨r', X', ⟨⟨C1.1, fun M2 => pw_A (pw_D hD), by rw [hA']; exact C1.2.2.1, C1.2.2.2⟩, hA'.trans hA0, J ++ J0, by rw [hJ, hJ0, List.append_assoc]⟩, by rw [← ht]; exact hP, by rw [hA']; exact hS⟩
theorem GX.fr (hG : GX g X0 A0 r T X b s) (hI : PI g (xb g r T ++ X) 372 (shI g r b) b s M H locs) {t : State} (ht : t.heap = H) : va_F A0 s t := by
  rw [← hG.2.1]
  exact hI.2.F ht
theorem GX.lo (hG : GX g X0 A0 r T X b s) (hI : PI g (xb g r T ++ X) 372 (shI g r b) b s M H locs) : ∀ z ∈ locs, A0 z.base := by
  rw [← hG.2.1]
  exact hI.2.2.2
/-- the ends' words -/
abbrev QgV (g : GG) (X0 : va_W) (A0 : Nat → Prop) (b : Nat → Nat) (sz : Nat) (T' M' : Mem) : Array Value → State → Outcome → State → Prop := va_Qv (fun (_ : Unit) => True) (fun _ t => PoG g X0 A0 b sz T' M' t) A0
abbrev QgI (g : GG) (X0 : va_W) (A0 : Nat → Prop) (b : Nat → Nat) (sz : Nat) (r0 : Int32) (T' M' : Mem) : Array Value → State → Outcome → State → Prop := va_Qi (fun r (_ : Unit) => r = r0) (fun _ t => PoG g X0 A0 b sz T' M' t) A0
abbrev QgR (g : GG) (X0 : va_W) (A0 : Nat → Prop) (b : Nat → Nat) (sz a0 : Nat) (T' M' : Mem) : Array Value → State → Outcome → State → Prop := va_Qr (fun (_ : Unit) => True) (fun _ a t => a = a0 ∧ PoG g X0 A0 b sz T' M' t) A0
abbrev QgX (g : GG) (X0 : va_W) (A0 : Nat → Prop) (b : Nat → Nat) (sz : Nat) (q0 : RX Int32) (T' M' : Mem) : Array Value → State → Outcome → State → Prop := va_Qi (fun r (_ : Unit) => q0 = .inr r) (fun _ t => PoG g X0 A0 b sz T' M' t) A0
theorem kg_v (hG : GX g X0 A0 r T X b s) (hI : PI g (xb g r T ++ X) 372 (shI g r b) b s M H locs) (run : va_Run p l e R s m args below meth c H locs cells slots mc ms (F0 m pc ls st0) rest (QgV g X (AA (xb g r T ++ X) b 372 H.size) b H.size T' M' av) (AA (xb g r T ++ X) b 372 H.size))
    (kk : ∀ (r' : Nat → Nat) (X' : va_W) (H : Heap) (locs : List Loc), GX g X0 A0 r' T' X' b s → PI g (xb g r' T' ++ X') 372 (shI g r' b) b s M' H locs → W p l e R s m args below meth c H locs (cells + mc) (slots + ms) Q (F0 m (pc + 3) ls rest)) : W p l e R s m args below meth c H locs cells slots Q (F0 m pc ls st0) :=
  va_callv run hI.2 (fun q _ h => CX.fr hI q h) (CX.fr hI) (fun u t H1 locs1 ht hvm hp hb hz hk hS => by obtain ⟨r', X', h1, h2⟩ := GX.call hG hI ht hb hS; exact kk r' X' H1 locs1 h1 h2)
theorem kg_i {r0 : Int32} (hG : GX g X0 A0 r T X b s) (hI : PI g (xb g r T ++ X) 372 (shI g r b) b s M H locs) (run : va_Run p l e R s m args below meth c H locs cells slots mc ms (F0 m pc ls st0) rest (QgI g X (AA (xb g r T ++ X) b 372 H.size) b H.size r0 T' M' av) (AA (xb g r T ++ X) b 372 H.size))
    (kk : ∀ (r' : Nat → Nat) (X' : va_W) (H : Heap) (locs : List Loc), GX g X0 A0 r' T' X' b s → PI g (xb g r' T' ++ X') 372 (shI g r' b) b s M' H locs → W p l e R s m args below meth c H locs (cells + mc) (slots + ms) Q (F0 m (pc + 3) ls (.int r0 :: rest))) : W p l e R s m args below meth c H locs cells slots Q (F0 m pc ls st0) :=
  va_calli run hI.2 (fun q _ h => CX.fr hI q h) (CX.fr hI) (fun r1 u t H1 locs1 ht hvm hp hb hz hk hS => by subst hp; obtain ⟨r', X', h1, h2⟩ := GX.call hG hI ht hb hS; exact kk r' X' H1 locs1 h1 h2)
theorem kg_r {a0 : Nat} (hG : GX g X0 A0 r T X b s) (hI : PI g (xb g r T ++ X) 372 (shI g r b) b s M H locs) (run : va_Run p l e R s m args below meth c H locs cells slots mc ms (F0 m pc ls st0) rest (QgR g X (AA (xb g r T ++ X) b 372 H.size) b H.size a0 T' M' av) (AA (xb g r T ++ X) b 372 H.size))
    (kk : ∀ (r' : Nat → Nat) (X' : va_W) (H : Heap) (locs : List Loc), GX g X0 A0 r' T' X' b s → PI g (xb g r' T' ++ X') 372 (shI g r' b) b s M' H locs → W p l e R s m args below meth c H locs (cells + mc) (slots + ms) Q (F0 m (pc + 3) ls (.ref a0 :: rest))) : W p l e R s m args below meth c H locs cells slots Q (F0 m pc ls st0) :=
  va_callr run hI.2 (fun q _ h => CX.fr hI q h) (CX.fr hI) (fun u ra t H1 locs1 ht hvm hp hb hz hk hS => by obtain ⟨rfl, hb⟩ := hb; obtain ⟨r', X', h1, h2⟩ := GX.call hG hI ht hb hS; exact kk r' X' H1 locs1 h1 h2)
theorem eg_v (C0 : CallFix p m c cc nL s args LWg own) (hG : GX g X0 A0 r T X b s) (hI : PI g (xb g r T ++ X) 372 (shI g r b) b s M H locs) (hr : meth.sig.returnType = none) (hlocks : meth.locks = false) (hf : some ((), T, M) = some ((), T', M')) (hdg : decode cc pc = .ok (.return_, 1)) : W p l e R s m args below meth c H locs cells slots (MQ below (QgV g X0 A0 b s.heap.size T' M') args s cells slots A0) (F0 m pc ls []) := by
  cases hf
  exact W.vret C0.1 C0.2.1 hr (fun t ht hW => ⟨⟨(), rfl, trivial, hG.post hI ht⟩, hG.fr hI ht⟩) (hG.lo hI) hdg hlocks
theorem eg_i (C0 : CallFix p m c cc nL s args LWg own) (hG : GX g X0 A0 r T X b s) (hI : PI g (xb g r T ++ X) 372 (shI g r b) b s M H locs) (hr : meth.sig.returnType = some .int) (hlocks : meth.locks = false) {v r0 : Int32} (hf : some (v, T, M) = some (r0, T', M')) (hdg : decode cc pc = .ok (.ireturn, 1)) : W p l e R s m args below meth c H locs cells slots (MQ below (QgI g X0 A0 b s.heap.size r0 T' M') args s cells slots A0) (F0 m pc ls [.int v]) := by
  cases hf
  exact W.iret C0.1 C0.2.1 hr (fun t ht hW => ⟨⟨v, (), rfl, rfl, hG.post hI ht⟩, hG.fr hI ht⟩) (hG.lo hI) hdg hlocks
theorem eg_r {C9 : String} {a0 : Nat} (C0 : CallFix p m c cc nL s args LWg own) (hG : GX g X0 A0 r T X b s) (hI : PI g (xb g r T ++ X) 372 (shI g r b) b s M H locs) (hr : meth.sig.returnType = some (.object C9)) (hlocks : meth.locks = false) (hf : some ((), T, M) = some ((), T', M')) (hdg : decode cc pc = .ok (.areturn, 1)) : W p l e R s m args below meth c H locs cells slots (MQ below (QgR g X0 A0 b s.heap.size a0 T' M') args s cells slots A0) (F0 m pc ls [.ref a0]) := by
  cases hf
  exact W.aret C0.1 C0.2.1 hr (Or.inl ⟨_, rfl⟩) (Or.inr ⟨_, rfl⟩) (fun t ht hW => ⟨⟨(), a0, rfl, trivial, rfl, hG.post hI ht⟩, hG.fr hI ht⟩) (hG.lo hI) hdg hlocks
theorem eg_x {q0 : RX Int32} {XC : String → State → State → Prop} (C0 : CallFix p m c cc nL s args LWg own) (hG : GX g X0 A0 r T X b s) (hI : PI g (xb g r T ++ X) 372 (shI g r b) b s M H locs) (hr : meth.sig.returnType = some .int) (hlocks : meth.locks = false) {v : Int32} (hf : some ((.inr v : RX Int32), T, M) = some (q0, T', M')) (hdg : decode cc pc = .ok (.ireturn, 1)) : W p l e R s m args below meth c H locs cells slots (vx_MQ below (QgX g X0 A0 b s.heap.size q0 T' M') XC args s cells slots A0) (F0 m pc ls [.int v]) := by
  cases hf
  exact vx_ret (W.iret C0.1 C0.2.1 hr (fun t ht hW => ⟨⟨v, (), rfl, rfl, hG.post hI ht⟩, hG.fr hI ht⟩) (hG.lo hI) hdg hlocks)
def bT (T : Mem) (k : Nat) (i x : Int32) : Mem := up2 T k (ix i) (vp_nar .byte x)
theorem xb_bT0 {i x : Int32} : xb g r (bT T 372 i x) = [(r 370, .inl (g.2.1 4, ix (T 374 0), .inl (upd (T 372) (ix i) (vp_nar .byte x)))), (r 371, .inl (g.2.1 4, ix (T 374 1), .inl (T 373)))] := by
  simp [xb, bT, up2, upr]
theorem xb_bT1 {i x : Int32} : xb g r (bT T 373 i x) = [(r 370, .inl (g.2.1 4, ix (T 374 0), .inl (T 372))), (r 371, .inl (g.2.1 4, ix (T 374 1), .inl (upd (T 373) (ix i) (vp_nar .byte x))))] := by
  simp [xb, bT, up2, upr]
theorem g_bast0 (C0 : CallFix p m c cc nL s args LWg own) (hG : GX g X0 A0 r T X b s) (hI : PI g (xb g r T ++ X) 372 (shI g r b) b s M H locs) {i x : Int32} (hin : inb i (ix (T 374 0)) = true) (hdg : decode cc pc = .ok (.bastore, 1))
    (kk : ∀ (H : Heap) (locs : List Loc), GX g X0 A0 r (bT T 372 i x) X b s → PI g (xb g r (bT T 372 i x) ++ X) 372 (shI g r b) b s M H locs → W p l e R s m args below meth c H locs cells slots Q (F0 m (pc + 1) ls rest)) : W p l e R s m args below meth c H locs cells slots Q (F0 m pc ls (.int x :: .int i :: .ref (r 370) :: rest)) := by
  refine va_bast C0.1 C0.2.1 hG.1.1 hI.1 (hG.1.2.1 M) hI.2 0 4 (x_at xb_0) rfl (inb_in hin) hdg (fun H1 locs1 hP hD hS => kk H1 locs1 ⟨hG.1.sb _, (AA_sb _ T).trans hG.2.1, hG.2.2⟩ ⟨?_, ?_⟩)
  · rw [xb_bT0]
    rw [xb_cons] at hP
    exact hP
  · rw [AA_sb _ T]
    exact hS
theorem g_bast1 (C0 : CallFix p m c cc nL s args LWg own) (hG : GX g X0 A0 r T X b s) (hI : PI g (xb g r T ++ X) 372 (shI g r b) b s M H locs) {i x : Int32} (hin : inb i (ix (T 374 1)) = true) (hdg : decode cc pc = .ok (.bastore, 1))
    (kk : ∀ (H : Heap) (locs : List Loc), GX g X0 A0 r (bT T 373 i x) X b s → PI g (xb g r (bT T 373 i x) ++ X) 372 (shI g r b) b s M H locs → W p l e R s m args below meth c H locs cells slots Q (F0 m (pc + 1) ls rest)) : W p l e R s m args below meth c H locs cells slots Q (F0 m pc ls (.int x :: .int i :: .ref (r 371) :: rest)) := by
  refine va_bast C0.1 C0.2.1 hG.1.1 hI.1 (hG.1.2.1 M) hI.2 1 4 (x_at xb_1) rfl (inb_in hin) hdg (fun H1 locs1 hP hD hS => kk H1 locs1 ⟨hG.1.sb _, (AA_sb _ T).trans hG.2.1, hG.2.2⟩ ⟨?_, ?_⟩)
  · rw [xb_bT1]
    rw [xb_cons] at hP
    exact hP
  · rw [AA_sb _ T]
    exact hS
end GROW
/-! ===== Arrays.copyOf of bytes ===== -/
def gok (f : Nat → Int32) (n : Nat) (z : Int32) : Bool := decide (n < ix z ∧ ix z ≤ 80 ∧ z = nI (ix z)) && (List.range n).all (fun i => fits .byte (.int (f i)))
theorem gok_1 {f : Nat → Int32} {n : Nat} {z : Int32} (h : gok f n z = true) : n < ix z ∧ ix z ≤ 80 ∧ z = nI (ix z) := of_decide_eq_true (Bool.and_eq_true _ _ ▸ h).1
theorem gok_2 {f : Nat → Int32} {n : Nat} {z : Int32} (h : gok f n z = true) {i : Nat} (hi : i < n) : fits .byte (.int (f i)) = true := List.all_eq_true.mp (Bool.and_eq_true _ _ ▸ h).2 i (List.mem_range.mpr hi)
theorem hd_copyOf : yJ7_copyOf_9075b.cls ≠ "java/lang/invoke/MethodHandle" ∧ yJ7_copyOf_9075b.cls ≠ "java/lang/invoke/VarHandle" ∧ (parseMethodDescriptor yJ7_copyOf_9075b.desc).map (fun d => d.parameters.length) = some 2 := ⟨by decide +kernel, by decide +kernel, by decide +kernel⟩
theorem byte_cls {g : GG} {s : State} {cA : ClassId} (h : va_K g.1 vwCl (tysG g ++ [(cA, .byte)]) s) : cA = g.2.1 4 := by
  have e1 : s.vm.findClass ("[" ++ (FieldType.byte).toString) = some cA := (h.2 5 (cA, .byte) rfl).2
  have e2 : s.vm.findClass ("[" ++ (FieldType.byte).toString) = some (g.2.1 4) := (h.2 4 (g.2.1 4, .byte) rfl).2
  exact Option.some.inj (e1.symm.trans e2)
set_option maxHeartbeats 4000000 in
set_option maxRecDepth 100000 in
theorem c_copyOf (l : Launch) (g : GG) (X : va_W) (N : Nat) (sh : Shp) (b : Nat → Nat) (sz : Nat) (M : Mem) (q0 a n : Nat) (f : Nat → Int32) (hx : X[q0]? = some (a, .inl (g.2.1 4, n, .inl f))) (z : Int32) (hz : gok f n z = true) :
    Met l yJ7_copyOf_9075b (.code yJ7_copyOf_9075b cJ7_copyOf_9075b 3 (some (.array .byte)) :: LWg) (rmD 2 1 80) (va_Pc [.ref a, .int z] (PreP g X N sh b sz M))
      (va_Qr (fun (_ : Unit) => True) (fun _ q t => sz ≤ q ∧ va_P g.1 vwCl ((q, .inl (g.2.1 4, ix z, .inl (va_cpy f (fun _ => 0) 0 0 n))) :: (X ++ pw N sh b M)) t.heap ∧ va_D (fun _ => True) ((q, .inl (g.2.1 4, ix z, .inl (va_cpy f (fun _ => 0) 0 0 n))) :: (X ++ pw N sh b M))) (AA X b N sz)) 1 80 (AA X b N sz) := by
  refine met_go (by decide +kernel) rfl (Nat.le_of_ble_eq_true rfl) ?_
  intro p e s m below meth c ls H locs C0 C1 hr hlocks hnm hsz hl hI
  subst hsz
  have hl : lv_has ls 3 [(0, .ref a), (1, .int z)] := hl
  obtain ⟨g1, g2, g3⟩ := gok_1 hz
  have hn31 : n < 2 ^ 31 := by omega
  have hq0 : q0 < X.length := (List.getElem?_eq_some_iff.mp hx).1
  refine lv_iload_n C0.1 C0.2.1 dJ7_copyOf_9075b_0 rfl (lv_at hl 1 rfl) ?_
  refine lv_aload_n C0.1 C0.2.1 dJ7_copyOf_9075b_1 rfl (lv_at hl 0 rfl) ?_
  refine x_alen C0 C1 hI q0 hx dJ7_copyOf_9075b_2 ?_
  refine lv_icmp_ne (tgt := 14) C0.1 C0.2.1 dJ7_copyOf_9075b_3 (by decide) (fun c_1 => ?_) (fun c_1 => ?_)
  · refine lv_iload_n C0.1 C0.2.1 dJ7_copyOf_9075b_14 rfl (lv_at hl 1 rfl) ?_
    have hz0 : ¬ z < 0 := by rw [g3]; exact nI_pos (by omega)
    refine va_newa (atype := .byte) (N' := ix z) (a0 := (ix z, .inl (fun _ => 0))) C0.1 C0.2.1 (C0.2.2.2.2 _ w_341) rfl C1.1 hI.1 (C1.2.1 M) hI.2 AA.new (fun _ => rfl) hz0 rfl (by show ix z * 1 ≤ 536870912; omega) (Nat.le_of_ble_eq_true rfl) (by show 0 + ix z ≤ 80; omega) dJ7_copyOf_9075b_15 (fun q cA H hK hP hD hS => ?_)
    have hcA := byte_cls hK
    subst hcA
    refine W.widen (k := 1) (n := 80) (by omega) (by omega) ?_
    refine lv_astore_n (lv' := [(2, .ref q), (0, .ref a), (1, .int z)]) C0.1 C0.2.1 dJ7_copyOf_9075b_17 rfl hl (by decide) rfl (fun ls hl => ?_)
    refine lv_aload_n C0.1 C0.2.1 dJ7_copyOf_9075b_18 rfl (lv_at hl 1 rfl) ?_
    refine lv_iconst (v := 0) C0.1 C0.2.1 dJ7_copyOf_9075b_19 (by decide) ?_
    refine lv_aload_n C0.1 C0.2.1 dJ7_copyOf_9075b_20 rfl (lv_at hl 0 rfl) ?_
    refine lv_iconst (v := 0) C0.1 C0.2.1 dJ7_copyOf_9075b_21 (by decide) ?_
    refine lv_aload_n C0.1 C0.2.1 dJ7_copyOf_9075b_22 rfl (lv_at hl 1 rfl) ?_
    have hx2 : ((X ++ pw N sh b M) ++ [(q, .inl (g.2.1 4, (ix z, .inl (fun _ => 0))))])[q0]? = some (a, .inl (g.2.1 4, n, .inl f)) := by
      rw [List.getElem?_append_left (by rw [List.length_append]; omega), List.getElem?_append_left hq0]
      exact hx
    have hx3 : ((X ++ pw N sh b M) ++ [(q, .inl (g.2.1 4, (ix z, .inl (fun _ => 0))))])[(X ++ pw N sh b M).length]? = some (q, .inl (g.2.1 4, (ix z, .inl (fun _ => 0)))) := by
      rw [List.getElem?_append_right (Nat.le_refl _), Nat.sub_self]
      rfl
    refine va_alen C0.1 C0.2.1 hK hP q0 4 hx2 rfl (v := nI n) rfl dJ7_copyOf_9075b_23 ?_
    refine lv_iload_n C0.1 C0.2.1 dJ7_copyOf_9075b_24 rfl (lv_at hl 2 rfl) ?_
    refine r_mmin C0 hl.1 w_1003 (Nat.le_of_ble_eq_true rfl) (Nat.le_of_ble_eq_true rfl) (Nat.le_of_ble_eq_true rfl) (Nat.le_of_ble_eq_true rfl) dJ7_copyOf_9075b_25 ?_
    have e1 : (if z < nI n then z else nI n) = nI n := if_neg (by rw [g3]; exact nI_nlt (by omega) (by omega))
    rw [e1]
    have cn : (nI n).toNatClampNeg = n := nI_clamp hn31
    refine va_copyi C0.1 C0.2.1 (by rw [C0.2.2.1, hl.1]) C0.2.2.2.1 (C0.2.2.2.2 _ w_1006) (C0.2.2.2.2 _ w_731) (C0.2.2.2.2 _ w_730) (C0.2.2.2.2 _ w_88) hK hP hD hS q0 (X ++ pw N sh b M).length 4 4 hx2 hx3 rfl rfl rfl (by decide) (by decide) (nI_pos hn31) (by rw [cn]; show 0 + n ≤ n; omega) (by rw [cn]; show 0 + n ≤ ix z; omega) (fun i hi => by rw [cn] at hi; show fits .byte (.int (f (0 + i))) = true; rw [Nat.zero_add]; exact gok_2 hz hi) (Nat.le_of_ble_eq_true rfl) (Nat.le_of_ble_eq_true rfl) dJ7_copyOf_9075b_28 (fun H locs hP hD hS => ?_)
    refine lv_aload_n C0.1 C0.2.1 dJ7_copyOf_9075b_31 rfl (lv_at hl 0 rfl) ?_
    rw [List.set_append_right _ _ (Nat.le_refl _), Nat.sub_self, cn] at hP hD
    have hP1 : ∀ t : State, t.heap = H → va_P g.1 vwCl ((q, .inl (g.2.1 4, ix z, .inl (va_cpy f (fun _ => 0) 0 0 n))) :: (X ++ pw N sh b M)) t.heap := fun t ht => by
      rw [ht]
      refine vP_iff.mpr fun x hx => vP_iff.mp hP x ?_
      rcases List.mem_cons.mp hx with h | h
      · subst h; exact List.mem_append_right _ (by exact List.mem_singleton.mpr rfl)
      · exact List.mem_append_left _ h
    have hD1 : va_D (AA X b N s.heap.size) ((q, .inl (g.2.1 4, ix z, .inl (va_cpy f (fun _ => 0) 0 0 n))) :: (X ++ pw N sh b M)) := by
      obtain ⟨d1, d2⟩ := vD_iff.mp hD
      refine vD_iff.mpr ⟨?_, fun x hx => d2 x ?_⟩
      · rw [List.map_append] at d1
        rw [List.map_cons]
        have := List.nodup_append.mp d1
        exact List.nodup_cons.mpr ⟨fun h => this.2.2 _ h _ (List.mem_singleton.mpr rfl) rfl, this.1⟩
      · rcases List.mem_cons.mp hx with h | h
        · subst h; exact List.mem_append_right _ (List.mem_singleton.mpr rfl)
        · exact List.mem_append_left _ h
    have hq : s.heap.size ≤ q := by
      obtain ⟨d1, d2⟩ := vD_iff.mp hD1
      rw [List.map_cons, List.nodup_cons] at d1
      have h9 := d2 _ List.mem_cons_self
      rcases AA_iff.mp h9 with h | ⟨k, hk, h⟩ | h
      · exact absurd (by rw [List.map_append]; exact List.mem_append_left _ h) d1.1
      · exact absurd (by rw [List.map_append]; exact List.mem_append_right _ (List.mem_map.mpr ⟨(b k, sh k (M k)), pw_mem.mpr ⟨k, hk, rfl⟩, h⟩)) d1.1
      · exact h
    exact W.aret C0.1 C0.2.1 hr (Or.inr ⟨_, rfl⟩) (Or.inr ⟨_, rfl⟩) (fun t ht hW => ⟨⟨(), q, rfl, trivial, hq, hP1 t ht, hD1.weaken (fun _ _ _ _ => trivial)⟩, hS.F ht⟩) hS.2.2 dJ7_copyOf_9075b_32 hlocks
  · have e1 : n = ix z := (nI_eq (by omega) (by omega)).mp (by rw [← g3]; exact c_1.symm)
    omega
/-! ===== the tail of ensureCapacityInternal: value = Arrays.copyOf(value, z) ===== -/
def gT (T : Mem) (k i : Nat) (z : Int32) : Mem := upr (upr T k (va_cpy (T k) (fun _ => 0) 0 0 (ix (T 374 i)))) 374 (upd (T 374) i z)
def rU (r : Nat → Nat) (k q : Nat) : Nat → Nat := fun j => if j = k then q else r j
theorem shI_rU {g : GG} {r b : Nat → Nat} {k q j : Nat} (h : j ≠ k) (v : Nat → Int32) : shI g (rU r k q) b j v = shI g r b j v := by
  simp only [shI, fS, rU, if_neg h]
theorem xb_gT0 {g : GG} {r : Nat → Nat} {T : Mem} {q : Nat} {z : Int32} : xb g (rU r 370 q) (gT T 372 0 z) = [(q, .inl (g.2.1 4, ix z, .inl (va_cpy (T 372) (fun _ => 0) 0 0 (ix (T 374 0))))), (r 371, .inl (g.2.1 4, ix (T 374 1), .inl (T 373)))] := by
  simp [xb, gT, rU, upr, upd]
section TAIL0
variable {p : Program} {l : Launch} {e : Env} {R : Room} {s : State} {m : MethodId} {args : Array Value} {below : List Frame} {meth : Method} {c : Code} {H : Heap} {locs : List Loc} {cells slots : Nat} {Q : State → Prop}
variable {cc : ByteArray} {nL : Nat} {pc : Nat} {ls : Array Slot} {rest : List Value} {g : GG} {X X0 : va_W} {A0 : Nat → Prop} {r b : Nat → Nat} {T M : Mem}
set_option maxHeartbeats 2000000 in
theorem g_copyput0 (C0 : CallFix p m c cc nL s args LWg RJ5) (hG : GX g X0 A0 r T X b s) (hI : PI g (xb g r T ++ X) 372 (shI g r b) b s M H locs) {z : Int32} (hz : gok (T 372) (ix (T 374 0)) z = true) (hls : ls.size = nL) (hW : 1 + (rest.map fun v => v.category).sum ≤ 8) (hRf : 2 + 1 ≤ R.frames) (hRl : 8 + (3 + 11) + 80 ≤ R.locals) (hf : cells + 1 ≤ R.cells ∧ slots + 80 ≤ R.slots)
    (hd1 : decode cc pc = .ok (.invokestatic 108, 3)) (hd2 : decode cc (pc + 3) = .ok (.putfield 15, 3))
    (kk : ∀ (q : Nat) (X' : va_W) (H : Heap) (locs : List Loc), GX g X0 A0 (rU r 370 q) (gT T 372 0 z) X' b s → PI g (xb g (rU r 370 q) (gT T 372 0 z) ++ X') 372 (shI g (rU r 370 q) b) b s M H locs → W p l e R s m args below meth c H locs (cells + 1) (slots + 80) Q (F0 m (pc + 3 + 3) ls rest)) :
    W p l e R s m args below meth c H locs cells slots Q (F0 m pc ls (.int z :: .ref (r 370) :: .ref (b 370) :: rest)) := by
  obtain ⟨C1, hA0, J0, hJ0⟩ := hG
  refine va_callr (q_S (As := [.ref (r 370), .int z]) (rest := .ref (b 370) :: rest) C0 C1 hI (c_copyOf l g (xb g r T ++ X) 372 (shI g r b) b H.size M 0 (r 370) (ix (T 374 0)) (T 372) xb_0 z hz) w_993 w_994 w_96 w_995 ⟨rfl, rfl⟩ hd_copyOf ⟨hRf, hRl⟩ rfl hls rfl (by simp only [List.map_cons, List.sum_cons]; exact hW) hd1 hf) hI.2 (fun q _ h => CX.fr hI q h) (CX.fr hI) (fun u q t H1 locs1 ht hvm hp hb hz1 hk1 hS => ?_)
  obtain ⟨hq, hP, hD⟩ := hb
  rw [ht] at hP
  have hsz : s.heap.size ≤ q := Nat.le_trans hI.2.1 hq
  have hat : ((q, .inl (g.2.1 4, ix z, .inl (va_cpy (T 372) (fun _ => 0) 0 0 (ix (T 374 0))))) :: ((xb g r T ++ X) ++ pw 372 (shI g r b) b M))[((xb g r T ++ X).length + 370) + 1]? = some (b 370, .inr (1, fS r 370 (M 370))) := by
    rw [List.getElem?_cons_succ, pw_get _ (Nat.le_of_ble_eq_true rfl : 370 < 372), shI_13 (rfl : kdI 370 = 13)]
  have hDA : va_D (AA (xb g r T ++ X) b 372 s.heap.size) ((q, .inl (g.2.1 4, ix z, .inl (va_cpy (T 372) (fun _ => 0) 0 0 (ix (T 374 0))))) :: ((xb g r T ++ X) ++ pw 372 (shI g r b) b M)) := by
    refine vD_iff.mpr ⟨(vD_iff.mp hD).1, fun x hx => ?_⟩
    rcases List.mem_cons.mp hx with h | h
    · subst h; exact AA.new _ hsz
    · exact (vD_iff.mp (C1.2.1 M)).2 x h
  refine va_put (C := RJ4) (T := TJ4) (N := 4) C0.1 C0.2.1 C0.2.2.2.2 iJ4 tyJ4 tyJ4_ok nmJ4 C0.2.2.2.1 C1.1 hP hDA hS _ hat rfl 0 (by decide) (C0.2.2.2.2 _ w_327) (fun x h => h) rfl (ty := .array .byte) (v := .ref q) (by decide +kernel) rfl rfl (Nat.le_of_ble_eq_true rfl) hd2 (fun H2 locs2 hP2 hD2 hS2 => ?_)
  obtain ⟨p1, p2⟩ := vP_set hP2 hat
  have hD3 : va_D (fun _ => True) (((q, .inl (g.2.1 4, ix z, .inl (va_cpy (T 372) (fun _ => 0) 0 0 (ix (T 374 0))))) :: (xb g r T ++ X)) ++ pw 372 (shI g r b) b M) := hD
  have hne : ∀ x ∈ ((q, .inl (g.2.1 4, ix z, .inl (va_cpy (T 372) (fun _ => 0) 0 0 (ix (T 374 0))))) :: (xb g r T ++ X) : va_W), x.1 ≠ b 370 := fun x hx => pw_off hD3 hx (Nat.le_of_ble_eq_true rfl : 370 < 372)
  have hAE : AA (xb g (rU r 370 q) (gT T 372 0 z) ++ ((r 370, .inl (g.2.1 4, ix (T 374 0), .inl (T 372))) :: X)) b 372 s.heap.size = AA (xb g r T ++ X) b 372 s.heap.size := by
    refine AA_ext fun x => ?_
    rw [xb_gT0]
    simp only [xb, List.map_append, List.map_cons, List.map_nil, List.mem_append, List.mem_cons, List.not_mem_nil, or_false]
    constructor
    · intro h
      rcases h with ((h | h) | h | h) | h
      · exact Or.inr (by rw [h]; exact hsz)
      · exact Or.inl (Or.inl (Or.inr h))
      · exact Or.inl (Or.inl (Or.inl h))
      · exact Or.inl (Or.inr h)
      · exact Or.inr h
    · intro h
      rcases h with ((h | h) | h) | h
      · exact Or.inl (Or.inr (Or.inl h))
      · exact Or.inl (Or.inl (Or.inr h))
      · exact Or.inl (Or.inr (Or.inr h))
      · exact Or.inr h
  have hDN : va_D (fun _ => True) (xb g (rU r 370 q) (gT T 372 0 z) ++ ((r 370, .inl (g.2.1 4, ix (T 374 0), .inl (T 372))) :: X) ++ pw 372 (shI g (rU r 370 q) b) b M) := by
    refine vD_iff.mpr ⟨?_, fun _ _ => trivial⟩
    have d1 := (vD_iff.mp hD).1
    have e9 : (pw 372 (shI g (rU r 370 q) b) b M).map (fun q => q.1) = (pw 372 (shI g r b) b M).map (fun q => q.1) := by
      unfold pw
      rw [List.map_map, List.map_map]
      rfl
    rw [List.map_append, e9, xb_gT0]
    rw [List.map_cons, List.map_append] at d1
    simp only [xb, List.map_append, List.map_cons, List.map_nil, List.cons_append, List.nil_append] at d1 ⊢
    refine (List.Perm.nodup_iff ?_).mpr d1
    exact List.Perm.cons _ (List.Perm.swap _ _ _)
  refine kk q _ H2 locs2 ⟨⟨C1.1, fun M2 => pw_A (pw_D hDN), by rw [hAE]; exact C1.2.2.1, C1.2.2.2⟩, hAE.trans hA0, (r 370, .inl (g.2.1 4, ix (T 374 0), .inl (T 372))) :: J0, by rw [hJ0, List.cons_append]⟩ ⟨?_, by rw [hAE]; exact hS2⟩
  refine vP_iff.mpr fun x hx => ?_
  have old : ∀ y ∈ (xb g r T ++ X : va_W), va_at g.1 vwCl y H2 := fun y hy => p2 y (List.mem_cons_of_mem _ (List.mem_append_left _ hy)) (hne y (List.mem_cons_of_mem _ hy))
  have new : va_at g.1 vwCl (q, .inl (g.2.1 4, ix z, .inl (va_cpy (T 372) (fun _ => 0) 0 0 (ix (T 374 0))))) H2 := p2 _ List.mem_cons_self (hne _ List.mem_cons_self)
  rcases List.mem_append.mp hx with h | h
  · rcases List.mem_append.mp h with h | h
    · rw [xb_gT0] at h
      simp only [List.mem_cons, List.not_mem_nil, or_false] at h
      rcases h with h | h
      · subst h; exact new
      · subst h; exact old _ (List.mem_append_left _ (by simp [xb]))
    · rcases List.mem_cons.mp h with h | h
      · subst h
        exact old _ (List.mem_append_left _ (by simp [xb]))
      · exact old _ (List.mem_append_right _ h)
  · obtain ⟨k, hk, rfl⟩ := pw_mem.mp h
    by_cases hk0 : k = 370
    · subst hk0
      rw [shI_13 (rfl : kdI 370 = 13)]
      have e8 : fS (rU r 370 q) 370 (M 370) = (fS r 370 (M 370)).set 0 (.ref q) := by
        simp [fS, rU]
      rw [e8]
      exact p1
    · rw [shI_rU hk0]
      exact p2 _ (List.mem_cons_of_mem _ (List.mem_append_right _ (pw_mem.mpr ⟨k, hk, rfl⟩))) (fun e9 => hk0 (pw_inj hD3 hk (Nat.le_of_ble_eq_true rfl : 370 < 372) e9))
end TAIL0

theorem xb_gT1 {g : GG} {r : Nat → Nat} {T : Mem} {q : Nat} {z : Int32} : xb g (rU r 371 q) (gT T 373 1 z) = [(r 370, .inl (g.2.1 4, ix (T 374 0), .inl (T 372))), (q, .inl (g.2.1 4, ix z, .inl (va_cpy (T 373) (fun _ => 0) 0 0 (ix (T 374 1)))))] := by
  simp [xb, gT, rU, upr, upd]
section TAIL1
variable {p : Program} {l : Launch} {e : Env} {R : Room} {s : State} {m : MethodId} {args : Array Value} {below : List Frame} {meth : Method} {c : Code} {H : Heap} {locs : List Loc} {cells slots : Nat} {Q : State → Prop}
variable {cc : ByteArray} {nL : Nat} {pc : Nat} {ls : Array Slot} {rest : List Value} {g : GG} {X X0 : va_W} {A0 : Nat → Prop} {r b : Nat → Nat} {T M : Mem}
set_option maxHeartbeats 2000000 in
theorem g_copyput1 (C0 : CallFix p m c cc nL s args LWg RJ5) (hG : GX g X0 A0 r T X b s) (hI : PI g (xb g r T ++ X) 372 (shI g r b) b s M H locs) {z : Int32} (hz : gok (T 373) (ix (T 374 1)) z = true) (hls : ls.size = nL) (hW : 1 + (rest.map fun v => v.category).sum ≤ 8) (hRf : 2 + 1 ≤ R.frames) (hRl : 8 + (3 + 11) + 80 ≤ R.locals) (hf : cells + 1 ≤ R.cells ∧ slots + 80 ≤ R.slots)
    (hd1 : decode cc pc = .ok (.invokestatic 108, 3)) (hd2 : decode cc (pc + 3) = .ok (.putfield 15, 3))
    (kk : ∀ (q : Nat) (X' : va_W) (H : Heap) (locs : List Loc), GX g X0 A0 (rU r 371 q) (gT T 373 1 z) X' b s → PI g (xb g (rU r 371 q) (gT T 373 1 z) ++ X') 372 (shI g (rU r 371 q) b) b s M H locs → W p l e R s m args below meth c H locs (cells + 1) (slots + 80) Q (F0 m (pc + 3 + 3) ls rest)) :
    W p l e R s m args below meth c H locs cells slots Q (F0 m pc ls (.int z :: .ref (r 371) :: .ref (b 371) :: rest)) := by
  obtain ⟨C1, hA0, J0, hJ0⟩ := hG
  refine va_callr (q_S (As := [.ref (r 371), .int z]) (rest := .ref (b 371) :: rest) C0 C1 hI (c_copyOf l g (xb g r T ++ X) 372 (shI g r b) b H.size M 1 (r 371) (ix (T 374 1)) (T 373) xb_1 z hz) w_993 w_994 w_96 w_995 ⟨rfl, rfl⟩ hd_copyOf ⟨hRf, hRl⟩ rfl hls rfl (by simp only [List.map_cons, List.sum_cons]; exact hW) hd1 hf) hI.2 (fun q _ h => CX.fr hI q h) (CX.fr hI) (fun u q t H1 locs1 ht hvm hp hb hz1 hk1 hS => ?_)
  obtain ⟨hq, hP, hD⟩ := hb
  rw [ht] at hP
  have hsz : s.heap.size ≤ q := Nat.le_trans hI.2.1 hq
  have hat : ((q, .inl (g.2.1 4, ix z, .inl (va_cpy (T 373) (fun _ => 0) 0 0 (ix (T 374 1))))) :: ((xb g r T ++ X) ++ pw 372 (shI g r b) b M))[((xb g r T ++ X).length + 371) + 1]? = some (b 371, .inr (1, fS r 371 (M 371))) := by
    rw [List.getElem?_cons_succ, pw_get _ (Nat.le_of_ble_eq_true rfl : 371 < 372), shI_13 (rfl : kdI 371 = 13)]
  have hDA : va_D (AA (xb g r T ++ X) b 372 s.heap.size) ((q, .inl (g.2.1 4, ix z, .inl (va_cpy (T 373) (fun _ => 0) 0 0 (ix (T 374 1))))) :: ((xb g r T ++ X) ++ pw 372 (shI g r b) b M)) := by
    refine vD_iff.mpr ⟨(vD_iff.mp hD).1, fun x hx => ?_⟩
    rcases List.mem_cons.mp hx with h | h
    · subst h; exact AA.new _ hsz
    · exact (vD_iff.mp (C1.2.1 M)).2 x h
  refine va_put (C := RJ4) (T := TJ4) (N := 4) C0.1 C0.2.1 C0.2.2.2.2 iJ4 tyJ4 tyJ4_ok nmJ4 C0.2.2.2.1 C1.1 hP hDA hS _ hat rfl 0 (by decide) (C0.2.2.2.2 _ w_327) (fun x h => h) rfl (ty := .array .byte) (v := .ref q) (by decide +kernel) rfl rfl (Nat.le_of_ble_eq_true rfl) hd2 (fun H2 locs2 hP2 hD2 hS2 => ?_)
  obtain ⟨p1, p2⟩ := vP_set hP2 hat
  have hD3 : va_D (fun _ => True) (((q, .inl (g.2.1 4, ix z, .inl (va_cpy (T 373) (fun _ => 0) 0 0 (ix (T 374 1))))) :: (xb g r T ++ X)) ++ pw 372 (shI g r b) b M) := hD
  have hne : ∀ x ∈ ((q, .inl (g.2.1 4, ix z, .inl (va_cpy (T 373) (fun _ => 0) 0 0 (ix (T 374 1))))) :: (xb g r T ++ X) : va_W), x.1 ≠ b 371 := fun x hx => pw_off hD3 hx (Nat.le_of_ble_eq_true rfl : 371 < 372)
  have hAE : AA (xb g (rU r 371 q) (gT T 373 1 z) ++ ((r 371, .inl (g.2.1 4, ix (T 374 1), .inl (T 373))) :: X)) b 372 s.heap.size = AA (xb g r T ++ X) b 372 s.heap.size := by
    refine AA_ext fun x => ?_
    rw [xb_gT1]
    simp only [xb, List.map_append, List.map_cons, List.map_nil, List.mem_append, List.mem_cons, List.not_mem_nil, or_false]
    constructor
    · intro h
      rcases h with ((h | h) | h | h) | h
      · exact Or.inl (Or.inl (Or.inl h))
      · exact Or.inr (by rw [h]; exact hsz)
      · exact Or.inl (Or.inl (Or.inr h))
      · exact Or.inl (Or.inr h)
      · exact Or.inr h
    · intro h
      rcases h with ((h | h) | h) | h
      · exact Or.inl (Or.inl (Or.inl h))
      · exact Or.inl (Or.inr (Or.inl h))
      · exact Or.inl (Or.inr (Or.inr h))
      · exact Or.inr h
  have hDN : va_D (fun _ => True) (xb g (rU r 371 q) (gT T 373 1 z) ++ ((r 371, .inl (g.2.1 4, ix (T 374 1), .inl (T 373))) :: X) ++ pw 372 (shI g (rU r 371 q) b) b M) := by
    refine vD_iff.mpr ⟨?_, fun _ _ => trivial⟩
    have d1 := (vD_iff.mp hD).1
    have e9 : (pw 372 (shI g (rU r 371 q) b) b M).map (fun q => q.1) = (pw 372 (shI g r b) b M).map (fun q => q.1) := by
      unfold pw
      rw [List.map_map, List.map_map]
      rfl
    rw [List.map_append, e9, xb_gT1]
    rw [List.map_cons, List.map_append] at d1
    simp only [xb, List.map_append, List.map_cons, List.map_nil, List.cons_append, List.nil_append] at d1 ⊢
    refine (List.Perm.nodup_iff ?_).mpr d1
    exact List.Perm.swap _ _ _
  refine kk q _ H2 locs2 ⟨⟨C1.1, fun M2 => pw_A (pw_D hDN), by rw [hAE]; exact C1.2.2.1, C1.2.2.2⟩, hAE.trans hA0, (r 371, .inl (g.2.1 4, ix (T 374 1), .inl (T 373))) :: J0, by rw [hJ0, List.cons_append]⟩ ⟨?_, by rw [hAE]; exact hS2⟩
  refine vP_iff.mpr fun x hx => ?_
  have old : ∀ y ∈ (xb g r T ++ X : va_W), va_at g.1 vwCl y H2 := fun y hy => p2 y (List.mem_cons_of_mem _ (List.mem_append_left _ hy)) (hne y (List.mem_cons_of_mem _ hy))
  have new : va_at g.1 vwCl (q, .inl (g.2.1 4, ix z, .inl (va_cpy (T 373) (fun _ => 0) 0 0 (ix (T 374 1))))) H2 := p2 _ List.mem_cons_self (hne _ List.mem_cons_self)
  rcases List.mem_append.mp hx with h | h
  · rcases List.mem_append.mp h with h | h
    · rw [xb_gT1] at h
      simp only [List.mem_cons, List.not_mem_nil, or_false] at h
      rcases h with h | h
      · subst h; exact old _ (List.mem_append_left _ (by simp [xb]))
      · subst h; exact new
    · rcases List.mem_cons.mp h with h | h
      · subst h
        exact old _ (List.mem_append_left _ (by simp [xb]))
      · exact old _ (List.mem_append_right _ h)
  · obtain ⟨k, hk, rfl⟩ := pw_mem.mp h
    by_cases hk0 : k = 371
    · subst hk0
      rw [shI_13 (rfl : kdI 371 = 13)]
      have e8 : fS (rU r 371 q) 371 (M 371) = (fS r 371 (M 371)).set 0 (.ref q) := by
        simp [fS, rU]
      rw [e8]
      exact p1
    · rw [shI_rU hk0]
      exact p2 _ (List.mem_cons_of_mem _ (List.mem_append_right _ (pw_mem.mpr ⟨k, hk, rfl⟩))) (fun e9 => hk0 (pw_inj hD3 hk (Nat.le_of_ble_eq_true rfl : 371 < 372) e9))
end TAIL1

