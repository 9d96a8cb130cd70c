/-! ===== PURE: the line of a list ===== -/
def dl (V : Nat → Nat) (i : Nat) : Nat → Nat × (Nat → Nat)
  | 0 => (0, fun _ => 0)
  | r + 1 => if V (29 + V (119 + 12 * i + rkd V i r)) = 0 then putC (putN (if r ≤ 0 then dl V i r else putC (dl V i r) 44) (V (119 + 12 * i + rkd V i r))) 126 else putN (if r ≤ 0 then dl V i r else putC (dl V i r) 44) (V (119 + 12 * i + rkd V i r))
def gd (s : Nat × (Nat → Nat)) : Prop := ∀ k, k < s.1 → 32 ≤ s.2 k
theorem gd_put {s : Nat × (Nat → Nat)} {x : Nat} (h : gd s) (hx : 32 ≤ x) : gd (putC s x) := by
  intro k hk
  unfold putC at hk ⊢
  by_cases e : k = s.1
  · simp only [e, if_true]; exact hx
  · simp only [e, if_false]
    have hk2 : k < s.1 + 1 := hk
    exact h k (by omega)
theorem gd_num {s : Nat × (Nat → Nat)} {x : Nat} (h : gd s) : gd (putN s x) := by
  unfold putN
  split
  · exact gd_put h (by omega)
  · exact gd_put (gd_put h (by decide)) (by omega)
theorem putC_1 (s : Nat × (Nat → Nat)) (x : Nat) : (putC s x).1 = s.1 + 1 := rfl
theorem putN_le (s : Nat × (Nat → Nat)) (x : Nat) : (putN s x).1 ≤ s.1 + 2 := by
  unfold putN
  split
  · rw [putC_1]; omega
  · rw [putC_1, putC_1]; exact Nat.le_refl _
theorem dl_gd (V : Nat → Nat) (i : Nat) : ∀ r, gd (dl V i r) ∧ (dl V i r).1 ≤ 4 * r
  | 0 => ⟨fun k hk => absurd hk (Nat.not_lt_zero _), Nat.le_refl _⟩
  | r + 1 => by
    obtain ⟨h1, h2⟩ := dl_gd V i r
    have h3 : gd (if r ≤ 0 then dl V i r else putC (dl V i r) 44) ∧ (if r ≤ 0 then dl V i r else putC (dl V i r) 44).1 ≤ 4 * r + 1 := by
      split
      · exact ⟨h1, by omega⟩
      · exact ⟨gd_put h1 (by decide), by rw [putC_1]; omega⟩
    have h4 := putN_le (if r ≤ 0 then dl V i r else putC (dl V i r) 44) (V (119 + 12 * i + rkd V i r))
    unfold dl
    split
    · exact ⟨gd_put (gd_num h3.1) (by decide), by rw [putC_1]; omega⟩
    · exact ⟨gd_num h3.1, by omega⟩
section DL
variable {n c : Nat} {T M Mm : Mem} {V : Nat → Nat}
theorem tab48 : ∀ x, x < 12 → nI 48 + (nI x - nI x / nI 10 * nI 10) = nI (48 + x % 10) := by decide +kernel
theorem tab49 : ∀ x, x < 12 → nI 48 + nI x / nI 10 = nI (48 + x / 10) := by decide +kernel
/-- the reference's line -/
def RLn (M : Mem) (s : Nat × (Nat → Nat)) : Prop := M 0 17 = nI s.1 ∧ ∀ k, k < s.1 → M 6 k = nI (s.2 k)
theorem R_put {s : Nat × (Nat → Nat)} {x : Nat} (h : RLn M s) (hs : s.1 < 60) : ∃ M', F_X10_writes n (nI x) M = some M' ∧ RLn M' (putC s x) ∧ (∀ k, k ≠ 0 → k ≠ 6 → M' k = M k) ∧ ∀ j, j ≠ 17 → M' 0 j = M 0 j := by
  obtain ⟨h1, h2⟩ := h
  have hB : ∀ k : Nat, 0 ≤ k := fun _ => Nat.zero_le _
  refine ⟨up2 (up2 M 6 s.1 (nI x)) 0 17 (nI (s.1 + 1)), ?_, ⟨u2_s, fun k hk => ?_⟩, fun k a b => by rw [u2_k a, u2_k b], fun j hj => by rw [u2_j hj, u2_k (by decide)]⟩
  · unfold F_X10_writes
    simp (disch := first | omega | exact hB _) only [h1, u2_k, ob_s, ob2_s, chk_t, lt_s', litI, n_add, n_mul, n_sub, inb_n, ix_n, n_le, n_lt, n_eq, n_bit, n_m1_lt, n_m1_eq, n_m1_m, n_ne_m, n_m_ne, n_m_lt0, n_0_le_m, if_true, if_false, eq_self, not_true_eq_false, not_false_eq_true, isB_0, isB_1, Bool.false_eq_true, true_and, and_true, false_and, and_false, and_self, Nat.one_ne_zero, Nat.zero_ne_one, reduceIte]
  · rw [u2_k (by decide)]
    unfold putC at hk ⊢
    by_cases e : k = s.1
    · subst e; rw [u2_s]; simp only [if_true]
    · rw [u2_j e]; simp only [e, if_false]
      have hk2 : k < s.1 + 1 := hk
      exact h2 k (by omega)
theorem R_num {s : Nat × (Nat → Nat)} {x : Nat} (h : RLn M s) (hs : s.1 < 59) (hx : x < 12) : ∃ M', F_X10_writesNumber n (nI x) M = some M' ∧ RLn M' (putN s x) ∧ (∀ k, k ≠ 0 → k ≠ 6 → M' k = M k) ∧ ∀ j, j ≠ 17 → M' 0 j = M 0 j := by
  have t8 := tab48 x hx
  have t9 := tab49 x hx
  have hB : ∀ k : Nat, 0 ≤ k := fun _ => Nat.zero_le _
  unfold F_X10_writesNumber putN
  by_cases e : x < 10
  · obtain ⟨M1, a1, a2, a3, a4⟩ := R_put (n := n) (x := 48 + x) h (by omega)
    rw [show x % 10 = x by omega] at t8
    refine ⟨M1, ?_, by rw [if_pos e]; exact a2, a3, a4⟩
    have e' : nI x < 10 := by rw [litN, n_lt (by omega) (by decide)]; exact e
    rw [if_pos e', litN, litN, t8, a1, ob_s]
  · obtain ⟨M1, a1, a2, a3, a4⟩ := R_put (n := n) (x := 49) h (by omega)
    obtain ⟨M2, b1, b2, b3, b4⟩ := R_put (n := n) (x := 48 + x % 10) a2 (by rw [putC_1]; omega)
    rw [show 48 + x / 10 = 49 by omega] at t9
    refine ⟨M2, ?_, by rw [if_neg e]; exact b2, fun k p q => by rw [b3 k p q, a3 k p q], fun j p => by rw [b4 j p, a4 j p]⟩
    have e' : ¬ nI x < 10 := by rw [litN, n_lt (by omega) (by decide)]; exact e
    rw [if_neg e', litN, litN, t9, a1, ob_s, t8, b1, ob_s]
def TBl (T M : Mem) (s : Nat × (Nat → Nat)) : Prop := ∃ cap, TB T M 371 373 1 s.1 cap s.2
theorem TBl.put {s : Nat × (Nat → Nat)} {x : Nat} (h : TBl T M s) (hs : s.1 < 60) (hx : x ≤ 126) : ∃ T', Fg_J4_append_cf468_l n T (nI x) M = some ((), T', up2 M 371 3 (nI (s.1 + 1))) ∧ TBl T' (up2 M 371 3 (nI (s.1 + 1))) (putC s x) ∧ T' 372 = T 372 ∧ T' 374 0 = T 374 0 := by
  obtain ⟨cap, h⟩ := h
  obtain ⟨T', cap', a1, a2, a3, a4⟩ := g_app_l (n := n) h (by omega) hx
  exact ⟨T', a1, ⟨cap', a2⟩, a3, a4⟩
theorem TBl.num {s : Nat × (Nat → Nat)} {x : Nat} (hn : 13 ≤ n) (h : TBl T M s) (hs : s.1 < 60) (hx : x < 12) : ∃ T', Fg_J4_append_bf812_l n T (nI x) M = some ((), T', up2 M 371 3 (nI (putN s x).1)) ∧ TBl T' (up2 M 371 3 (nI (putN s x).1)) (putN s x) ∧ T' 372 = T 372 ∧ T' 374 0 = T 374 0 := by
  obtain ⟨cap, h⟩ := h
  obtain ⟨T', cap', a1, a2, a3, a4⟩ := g_num hn h hs hx
  exact ⟨T', a1, ⟨cap', a2⟩, a3, a4⟩
theorem QI.fr {i r : Nat} {x x' : Mem} (h : QI V i x r) (e1 : x' 344 = x 344) (e2 : x' 345 = x 345) : QI V i x' r := by
  obtain ⟨tk, h1, h2, ⟨K, k0, k1, k2, k3⟩, h4⟩ := h
  exact ⟨tk, h1, h2, ⟨K, k0, by rw [e1]; exact k1, by rw [e2]; exact k2, k3⟩, h4⟩
/-- a frog taken and written -/
theorem C_dlstep {ρ : Type} {s : Nat × (Nat → Nat)} {i r : Nat} {M0 T0 : Mem} (K : Mem → Mem → Option ρ) (hA : AR M0 1 V) (W : WF c V) (hn : 14 ≤ n) (hi : i < 6) (hs : s.1 < 50) (hT : TBl T M s) (hQ : QI V i M r) (hr : r < V (59 + 10 * i + 5)) (hfr : ∀ k, k ≠ 344 → k ≠ 345 → k ≠ 371 → M k = M0 k) (t1 : T 372 = T0 372) (t2 : T 374 0 = T0 374 0) (ht : M 371 = M 371) :
    ∃ T' M', (ob2 (F_X8_takeFirst n 344 M) (fun f M1 => ogu (Fg_J4_append_bf812_l n T f M1) (fun T2 M2 => ob (F_X2_sits n 1 f M2) (fun z => (if z = 0 then ogu (Fg_J4_append_cf468_l n T2 126 M2) (fun T3 M3 => K T3 M3) else K T2 M2))))) = K T' M' ∧
      TBl T' M' (if V (29 + V (119 + 12 * i + rkd V i r)) = 0 then putC (putN s (V (119 + 12 * i + rkd V i r))) 126 else putN s (V (119 + 12 * i + rkd V i r))) ∧ QI V i M' (r + 1) ∧ (∀ k, k ≠ 344 → k ≠ 345 → k ≠ 371 → M' k = M0 k) ∧ T' 372 = T0 372 ∧ T' 374 0 = T0 374 0 ∧ rkd V i r < V (59 + 10 * i + 5) := by
  have hB := W.b
  have hF := W.F
  have hl := W.li hi
  have hm : MR M0 (8 + 4 * i) V i := hA.mo i hi
  obtain ⟨q, M1, q1, q2, q3, q4, q5⟩ := C_takeR W hn hi hQ hr
  rw [q3]
  have hx := W.lf hi q2
  have hT1 : TBl T M1 s := by
    obtain ⟨cap, a1, a2, a3⟩ := hT
    exact ⟨cap, by rw [q5 371 (by decide) (by decide)]; exact a1, by rw [q5 371 (by decide) (by decide)]; exact a2, a3⟩
  obtain ⟨T2, n1, n2, n3, n4⟩ := hT1.num (n := n) (x := V (119 + 12 * i + q)) (by omega) (by omega) (by omega)
  have hN := putN_le s (V (119 + 12 * i + q))
  have hfr2 : ∀ y k, k ≠ 344 → k ≠ 345 → k ≠ 371 → up2 M1 371 3 y k = M0 k := fun y k a b d => by rw [u2_k d, q5 k a b, hfr k a b d]
  have hA2 : AR (up2 M1 371 3 (nI (putN s (V (119 + 12 * i + q))).1)) 1 V := hA.cong W (fun k a b => hfr2 _ k (by omega) (by omega) (by omega))
  have hst := C_sits (n := n) hA2 hB hF hx
  rw [q1, ob2_s, n1, ogu_s, hst, ob_s]
  by_cases z : V (29 + V (119 + 12 * i + q)) = 0
  · obtain ⟨T3, p1, p2, p3, p4⟩ := n2.put (n := n) (x := 126) (by omega) (by decide)
    rw [if_pos z, if_pos z, if_pos (by rfl), litN, p1, ogu_s]
    exact ⟨T3, _, rfl, p2, q4.fr (by rw [u2_k (by decide), u2_k (by decide)]) (by rw [u2_k (by decide), u2_k (by decide)]), fun k a b d => by rw [u2_k d]; exact hfr2 _ k a b d, by rw [p3, n3, t1], by rw [p4, n4, t2], q2⟩
  · simp only [z, if_false]
    rw [if_neg (by rw [litN, n10]; exact id)]
    exact ⟨T2, _, rfl, n2, q4.fr (u2_k (by decide)) (u2_k (by decide)), fun k a b d => hfr2 _ k a b d, by rw [n3, t1], by rw [n4, t2], q2⟩
end DL
