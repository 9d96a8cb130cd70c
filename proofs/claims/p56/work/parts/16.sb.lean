/-! ===== the two StringBuilders: their objects are the class's cells 370, 371; their bytes lie at r 370, r 371; M 372, M 373: the bytes; M 374 0, M 374 1: the capacities ===== -/
def xb (g : GG) (r : Nat → Nat) (M : Mem) : va_W := [(r 370, .inl (g.2.1 4, ix (M 374 0), .inl (M 372))), (r 371, .inl (g.2.1 4, ix (M 374 1), .inl (M 373)))]
/-- a memory after a call that touches no StringBuilder -/
def kp (M M2 : Mem) : Mem := fun k => if k < 372 then M2 k else M k
theorem va_D_map {A : Nat → Prop} {W1 W2 : va_W} (e : W1.map (fun q => q.1) = W2.map (fun q => q.1)) (h : va_D A W1) : va_D A W2 := by
  have key : ∀ (k : Nat) (q : Nat × va_E), W2[k]? = some q → ∃ x, W1[k]? = some (q.1, x) := by
    intro k q hq
    have e1 : (W1.map (fun q => q.1))[k]? = (W2.map (fun q => q.1))[k]? := by rw [e]
    rw [List.getElem?_map, List.getElem?_map, hq] at e1
    cases h1 : W1[k]? with
    | none => rw [h1] at e1; cases e1
    | some z =>
      rw [h1] at e1
      have e2 : z.1 = q.1 := Option.some.inj e1
      exact ⟨z.2, by rw [← e2]⟩
  refine ⟨fun i j x y hi hj hxy => ?_, fun k q hk => ?_⟩
  · obtain ⟨e1, h1⟩ := key i x hi
    obtain ⟨e2, h2⟩ := key j y hj
    exact h.1 i j _ _ h1 h2 hxy
  · obtain ⟨e1, h1⟩ := key k q hk
    exact (h.2 k (q.1, e1) h1 : A q.1)
theorem two_some {c0 c1 d0 d1 : Nat × va_E} {X : va_W} {q : Nat} (h0 : c0.1 = d0.1) (h1 : c1.1 = d1.1) (h : ∃ (k : Nat) (e : va_E), (c0 :: c1 :: X)[k]? = some (q, e)) : ∃ (k : Nat) (e : va_E), (d0 :: d1 :: X)[k]? = some (q, e) := by
  obtain ⟨k, e, h⟩ := h
  match k, h with
  | 0, h =>
    rw [List.getElem?_cons_zero] at h
    refine ⟨0, d0.2, ?_⟩
    rw [List.getElem?_cons_zero, show q = d0.1 by rw [← h0, Option.some.inj h]]
  | 1, h =>
    rw [List.getElem?_cons_succ, List.getElem?_cons_zero] at h
    refine ⟨1, d1.2, ?_⟩
    rw [List.getElem?_cons_succ, List.getElem?_cons_zero, show q = d1.1 by rw [← h1, Option.some.inj h]]
  | k + 2, h =>
    rw [List.getElem?_cons_succ, List.getElem?_cons_succ] at h
    exact ⟨k + 2, e, by rw [List.getElem?_cons_succ, List.getElem?_cons_succ]; exact h⟩
theorem xb_cons {g : GG} {r : Nat → Nat} {M : Mem} {X : va_W} : xb g r M ++ X = (r 370, .inl (g.2.1 4, ix (M 374 0), .inl (M 372))) :: (r 371, .inl (g.2.1 4, ix (M 374 1), .inl (M 373))) :: X := by
  rw [xb, List.cons_append, List.cons_append, List.nil_append]
theorem xb_some {g : GG} {r : Nat → Nat} {M M' : Mem} {X : va_W} {q : Nat} (h : ∃ (k : Nat) (e : va_E), (xb g r M ++ X)[k]? = some (q, e)) : ∃ (k : Nat) (e : va_E), (xb g r M' ++ X)[k]? = some (q, e) := by
  rw [xb_cons] at h ⊢
  refine two_some ?_ ?_ h <;> rfl
theorem xb_map {g : GG} {r : Nat → Nat} {M M' : Mem} : (xb g r M).map (fun q => q.1) = (xb g r M').map (fun q => q.1) := by
  simp only [xb, List.map_cons, List.map_nil]
theorem AA_sb {g : GG} {r : Nat → Nat} {X : va_W} {b : Nat → Nat} {N n : Nat} (M M' : Mem) : AA (xb g r M ++ X) b N n = AA (xb g r M' ++ X) b N n :=
  funext fun q => propext ⟨fun h => h.imp_left xb_some, fun h => h.imp_left xb_some⟩
theorem CX.sb {g : GG} {r : Nat → Nat} {X : va_W} {N : Nat} {sh : Shp} {b : Nat → Nat} {s : State} {M : Mem} (h : CX g (xb g r M ++ X) N sh b s) (M' : Mem) : CX g (xb g r M' ++ X) N sh b s := by
  obtain ⟨h1, h2, h3, h4⟩ := h
  refine ⟨h1, fun M1 => ?_, ?_, h4⟩
  · rw [AA_sb M' M]
    exact va_D_map (by rw [List.map_append, List.map_append, List.map_append, List.map_append, xb_map (M := M) (M' := M')]) (h2 M1)
  · rw [AA_sb M' M]
    exact h3
theorem PI.sb {g : GG} {r : Nat → Nat} {X : va_W} {N : Nat} {sh : Shp} {b : Nat → Nat} {s : State} {M M2 : Mem} {H : Heap} {locs : List Loc} (hI : PI g (xb g r M ++ X) N sh b s M2 H locs) (h : xb g r M = xb g r M2) : PI g (xb g r M2 ++ X) N sh b s M2 H locs := by
  rw [h] at hI
  exact hI
theorem pw_kp {sh : Shp} {b : Nat → Nat} (M M2 : Mem) : pw 372 sh b (kp M M2) = pw 372 sh b M2 := by
  unfold pw
  refine List.map_congr_left fun k hk => ?_
  have h : k < 372 := List.mem_range.mp hk
  simp only [kp, if_pos h]
theorem PI.keep {g : GG} {r : Nat → Nat} {X : va_W} {sh : Shp} {b : Nat → Nat} {s : State} {M M2 : Mem} {H : Heap} {locs : List Loc} (hI : PI g (xb g r M ++ X) 372 sh b s M2 H locs) : PI g (xb g r (kp M M2) ++ X) 372 sh b s (kp M M2) H locs := by
  have e1 : pw 372 sh b (kp M M2) = pw 372 sh b M2 := pw_kp M M2
  have e2 : xb g r (kp M M2) = xb g r M := by simp [xb, kp]
  unfold PI
  rw [e1, e2]
  exact hI
section SBROWS
variable {p : Program} {l : Launch} {e : Env} {R : Room} {s : State} {m : MethodId} {args : Array Value} {below : List Frame} {meth : Method} {c : Code} {H : Heap} {locs : List Loc} {cells slots : Nat} {Q : State → Prop}
variable {cc : ByteArray} {nL : Nat} {own : String} {pc : Nat} {ls : Array Slot} {rest st0 : List Value} {g : GG} {X : va_W} {N : Nat} {sh : Shp} {b : Nat → Nat} {M : Mem}
/-- a field read through a class above -/
theorem r_getA (C0 : CallFix p m c cc nL s args LWg own) (C1 : CX g X N sh b s) (hI : PI g X N sh b s M H locs) {C : String} {T : u_T} {N9 ci index : Nat} (hin : ∀ w ∈ u_ws C T N9, w ∈ LWg) (hc : vwCl[ci]? = some (C, T, N9)) (k j : Nat) (hk : k < N) (hj : j < N9) {fs : List Value} {v : Value} (hs : sh k (M k) = .inr (ci, fs)) (hv : fs[j]? = some v) (hw : (.fieldLink own index (T j).1 (T j).2.1 (T j).2.2.1) ∈ LWg) (hdg : decode cc pc = .ok (.getfield index, 3))
    (kk : W p l e R s m args below meth c H locs cells slots Q (F0 m (pc + 3) ls (v :: rest))) : W p l e R s m args below meth c H locs cells slots Q (F0 m pc ls (.ref (b k) :: rest)) :=
  va_get (C := C) (T := T) C0.1 C0.2.1 C0.2.2.2.2 hin C0.2.2.2.1 C1.1 hI.1 (X.length + k) (by rw [pw_get X hk, hs]) hc j hj (C0.2.2.2.2 _ hw) (fun x h => h) hv hdg kk
theorem r_putA (C0 : CallFix p m c cc nL s args LWg own) (C1 : CX g X N sh b s) (hI : PI g X N sh b s M H locs) {C : String} {T : u_T} {N9 ci index : Nat} (hin : ∀ w ∈ u_ws C T N9, w ∈ LWg) (ty0 : Nat → FieldType) (hty : ∀ k, k < N9 → parseFieldDescriptor (T k).2.2.1 = some (ty0 k)) (hnm : ∀ a, a < N9 → ∀ b, b < N9 → a ≠ b → (T a).2.1 ≠ (T b).2.1) (hc : vwCl[ci]? = some (C, T, N9)) (k j : Nat) (hk : k < N) (hj : j < N9) {fs : (Nat → Int32) → List Value} {x : Int32} (hs : ∀ v, sh k v = .inr (ci, fs v)) (hset : fs (upd (M k) j x) = (fs (M k)).set j (.int x)) (hfin : (T j).2.2.2 = false) {ty : FieldType} (hd : parseFieldDescriptor (T j).2.2.1 = some ty) (hn : narrow ty (.int x) = .int x ∧ fits ty (.int x) = true) (hl : j < (fs (M k)).length) (hw : (.fieldLink own index (T j).1 (T j).2.1 (T j).2.2.1) ∈ LWg) (hdg : decode cc pc = .ok (.putfield index, 3))
    (kk : ∀ (H : Heap) (locs : List Loc), PI g X N sh b s (up2 M k j x) H locs → W p l e R s m args below meth c H locs cells slots Q (F0 m (pc + 3) ls rest)) : W p l e R s m args below meth c H locs cells slots Q (F0 m pc ls (.int x :: .ref (b k) :: rest)) := by
  have e1 : (X ++ pw N sh b M).set (X.length + k) (b k, .inr (ci, (fs (M k)).set j (.int x))) = X ++ pw N sh b (up2 M k j x) := by
    rw [← hset, ← hs]
    exact pw_set X hk
  refine va_put (C := C) (T := T) C0.1 C0.2.1 C0.2.2.2.2 hin ty0 hty hnm C0.2.2.2.1 C1.1 hI.1 (C1.2.1 M) hI.2 (X.length + k) (by rw [pw_get X hk, hs]) hc j hj (C0.2.2.2.2 _ hw) (fun x h => h) hfin hd hn.1 hn.2 hl hdg (fun H1 locs1 hP hD hS => kk H1 locs1 ⟨?_, hS⟩)
  rw [← e1]
  exact hP
/-- bytes outside the pool -/
theorem x_at {W : va_W} {q : Nat} {z : Nat × va_E} (hx : X[q]? = some z) : (X ++ W)[q]? = some z := by
  rw [List.getElem?_append_left (List.getElem?_eq_some_iff.mp hx).1]
  exact hx
theorem x_bald (C0 : CallFix p m c cc nL s args LWg own) (C1 : CX g X N sh b s) (hI : PI g X N sh b s M H locs) (q : Nat) {a n : Nat} {f : Nat → Int32} (hx : X[q]? = some (a, .inl (g.2.1 4, n, .inl f))) {i : Int32} (hin : inb i n = true) (hdg : decode cc pc = .ok (.baload, 1))
    (kk : W p l e R s m args below meth c H locs cells slots Q (F0 m (pc + 1) ls (.int (f (ix i)) :: rest))) : W p l e R s m args below meth c H locs cells slots Q (F0 m pc ls (.int i :: .ref a :: rest)) :=
  va_bald C0.1 C0.2.1 C1.1 hI.1 q 4 (x_at hx) rfl (inb_in hin) hdg kk
theorem x_alen (C0 : CallFix p m c cc nL s args LWg own) (C1 : CX g X N sh b s) (hI : PI g X N sh b s M H locs) (q : Nat) {a n : Nat} {f : Nat → Int32} (hx : X[q]? = some (a, .inl (g.2.1 4, n, .inl f))) (hdg : decode cc pc = .ok (.arraylength, 1))
    (kk : W p l e R s m args below meth c H locs cells slots Q (F0 m (pc + 1) ls (.int (nI n) :: rest))) : W p l e R s m args below meth c H locs cells slots Q (F0 m pc ls (.ref a :: rest)) :=
  va_alen C0.1 C0.2.1 C1.1 hI.1 q 4 (x_at hx) rfl rfl hdg kk
theorem x_bast (C0 : CallFix p m c cc nL s args LWg own) (C1 : CX g X N sh b s) (hI : PI g X N sh b s M H locs) (q : Nat) {a n : Nat} {f : Nat → Int32} (hx : X[q]? = some (a, .inl (g.2.1 4, n, .inl f))) {i x : Int32} (hin : inb i n = true) (hn : vp_nar .byte x = x) {X' : va_W} (hX : X.set q (a, .inl (g.2.1 4, n, .inl (upd f (ix i) x))) = X') (hdg : decode cc pc = .ok (.bastore, 1))
    (kk : ∀ (H : Heap) (locs : List Loc), va_P g.1 vwCl (X' ++ pw N sh b M) H → va_S (AA X b N s.heap.size) s.heap H locs → W p l e R s m args below meth c H locs cells slots Q (F0 m (pc + 1) ls rest)) : W p l e R s m args below meth c H locs cells slots Q (F0 m pc ls (.int x :: .int i :: .ref a :: rest)) := by
  refine va_bast C0.1 C0.2.1 C1.1 hI.1 (C1.2.1 M) hI.2 q 4 (x_at hx) rfl (inb_in hin) hdg (fun H1 locs1 hP hD hS => kk H1 locs1 ?_ hS)
  rw [hn, List.set_append_left _ _ (List.getElem?_eq_some_iff.mp hx).1, show X.set q (a, .inl (g.2.1 4, n, .inl (upd f i.toNatClampNeg x))) = X' from hX] at hP
  exact hP
end SBROWS
