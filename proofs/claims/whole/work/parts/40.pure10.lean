/-! ===== PURE: the reference's rows ===== -/
theorem le_n {v : Nat} {a : Nat} (ha : a < 2147483648) (hv : v < 2147483648) : (nI a ≤ nI v) = (a ≤ v) := n_le ha hv
theorem WM.mono {c c' i : Nat} {V : Nat → Nat} (h : WM c V i) (hc : c ≤ c') : WM c' V i := h.keep hc (Nat.le_refl _) (fun _ _ => rfl)
theorem WF.mono {c c' : Nat} {V : Nat → Nat} (W : WF c V) (hc : c ≤ c') : WF c' V := by
  refine ⟨W.1, W.F, W.P, W.M, Nat.le_trans W.2.2.2.2.1 hc, Nat.le_trans W.2.2.2.2.2.1 hc, fun f hf => ?_, fun p hp => W.pd hp, fun i hi => (W.mo hi).mono hc⟩
  obtain ⟨q1, q2, q3, q4, q5⟩ := W.fr hf
  exact ⟨q1, q2, q3, q4, by omega⟩
section ROW
variable {n c : Nat} {M Mm : Mem} {V : Nat → Nat}
theorem R_lays {o0 o1 : Nat} (ho : o1 ≠ o0) (hn : 408 ≤ n) : ∃ M', F_X10_lays n o0 o1 M = some M' ∧ (∀ k, k < 407 → M' o0 k = M o1 k) ∧ ∀ k, k ≠ o0 → M' k = M k := by
  have hB : ∀ k : Nat, 0 ≤ k := fun _ => Nat.zero_le _
  unfold F_X10_lays
  refine loopI (fun k f x => F_X10_lays_L2 n o0 o1 k (nI f) x) (fun f x => (∀ k, k < f → x o0 k = M o1 k) ∧ ∀ k, k ≠ o0 → x k = M k) (fun M' => (∀ k, k < 407 → M' o0 k = M o1 k) ∧ ∀ k, k ≠ o0 → M' k = M k) 0 407 (fun k x hx => ?_) (fun k f x hs hf hx => ?_) n (by omega) (by omega) M ⟨fun k hk => absurd hk (Nat.not_lt_zero _), fun _ _ => rfl⟩
  · refine ⟨x, ?_, hx⟩
    simp only [F_X10_lays_L2]
    simp (disch := first | omega | exact hB _) only [Nat.le_refl, ob_s, ob2_s, chk_t, lt_s', litI, n_add, n_mul, n_sub, inb_n, ix_n, n_le, n_lt, n_eq, n_bit, n_m1_lt, n_m1_eq, n_m1_m, n_ne_m, n_m_ne, n_m_lt0, n_0_le_m, if_true, if_false, eq_self, not_true_eq_false, not_false_eq_true, isB_0, isB_1, Bool.false_eq_true, true_and, and_true, false_and, and_false, and_self, Nat.one_ne_zero, Nat.zero_ne_one, reduceIte]
  · have hle : ¬ 407 ≤ f := by omega
    refine ⟨up2 x o0 f (x o1 f), ⟨fun k hk => ?_, fun k hk => by rw [u2_k hk, hx.2 k hk]⟩, ?_⟩
    · by_cases e : k = f
      · subst e; rw [u2_s, hx.2 o1 ho]
      · rw [u2_j e]; exact hx.1 k (by omega)
    · simp only [F_X10_lays_L2]
      simp (disch := first | omega | exact hB _) only [hle, ob_s, ob2_s, chk_t, lt_s', litI, n_add, n_mul, n_sub, inb_n, ix_n, n_le, n_lt, n_eq, n_bit, n_m1_lt, n_m1_eq, n_m1_m, n_ne_m, n_m_ne, n_m_lt0, n_0_le_m, if_true, if_false, eq_self, not_true_eq_false, not_false_eq_true, isB_0, isB_1, Bool.false_eq_true, true_and, and_true, false_and, and_false, and_self, Nat.one_ne_zero, Nat.zero_ne_one, reduceIte]
theorem R_begins (hn : 408 ≤ n) : ∃ M', F_X10_begins n Mm = some M' ∧ M' 0 0 = nI 0 ∧ (∀ j, j ≠ 0 → M' 0 j = Mm 0 j) ∧ (∀ k, k < 407 → M' 2 k = Mm 1 k) ∧ ∀ k, k ≠ 0 → k ≠ 2 → M' k = Mm k := by
  obtain ⟨M', e1, e2, e3⟩ := R_lays (n := n) (M := up2 Mm 0 0 (nI 0)) (o0 := 2) (o1 := 1) (by decide) hn
  refine ⟨M', ?_, by rw [e3 0 (by decide), u2_s], fun j hj => by rw [e3 0 (by decide), u2_j hj], fun k hk => by rw [e2 k hk, u2_k (by decide)], fun k h0 h2 => by rw [e3 k h2, u2_k h0]⟩
  unfold F_X10_begins
  rw [lt_s', litN, e1, ob_s]
theorem R_L72 {cnt : Nat} {x1 : Int32} (hc : cnt ≤ 7) (h1 : M 0 1 = nI cnt) (hn : 408 ≤ n) : ∃ M', F_X10_ends_L72 n n x1 0 M = some (x1, M') ∧ (∀ k, k < 407 → M' 4 (cnt * 407 + k) = M 2 k) ∧ (∀ k, k < cnt * 407 → M' 4 k = M 4 k) ∧ (∀ k, k ≠ 4 → k ≠ 0 → M' k = M k) ∧ M' 0 1 = nI (cnt + 1) ∧ ∀ j, j ≠ 1 → M' 0 j = M 0 j := by
  have hB : ∀ k : Nat, 0 ≤ k := fun _ => Nat.zero_le _
  have key : ∃ r, F_X10_ends_L72 n n x1 (nI 0) M = some r ∧ r.1 = x1 ∧ (∀ k, k < 407 → r.2 4 (cnt * 407 + k) = M 2 k) ∧ (∀ k, k < cnt * 407 → r.2 4 k = M 4 k) ∧ (∀ k, k ≠ 4 → k ≠ 0 → r.2 k = M k) ∧ r.2 0 1 = nI (cnt + 1) ∧ ∀ j, j ≠ 1 → r.2 0 j = M 0 j := by
    refine loopI (fun k f x => F_X10_ends_L72 n k x1 (nI f) x) (fun f x => (∀ k, k < f → x 4 (cnt * 407 + k) = M 2 k) ∧ (∀ k, k < cnt * 407 → x 4 k = M 4 k) ∧ ∀ k, k ≠ 4 → x k = M k) _ 0 407 (fun k x hx => ?_) (fun k f x hs hf hx => ?_) n (by omega) (by omega) M ⟨fun k hk => absurd hk (Nat.not_lt_zero _), fun _ _ => rfl, fun _ _ => rfl⟩
    · obtain ⟨g1, g2, g3⟩ := hx
      have e0 : x 0 = M 0 := g3 0 (by decide)
      refine ⟨(x1, up2 x 0 1 (nI (cnt + 1))), ?_, ?_⟩
      · simp only [F_X10_ends_L72]
        simp (disch := first | omega | exact hB _) only [Nat.le_refl, e0, h1, ob_s, ob2_s, chk_t, lt_s', litI, n_add, n_mul, n_sub, inb_n, ix_n, n_le, n_lt, n_eq, n_bit, n_m1_lt, n_m1_eq, n_m1_m, n_ne_m, n_m_ne, n_m_lt0, n_0_le_m, if_true, if_false, eq_self, not_true_eq_false, not_false_eq_true, isB_0, isB_1, Bool.false_eq_true, true_and, and_true, false_and, and_false, and_self, Nat.one_ne_zero, Nat.zero_ne_one, reduceIte]
      · dsimp only
        exact ⟨rfl, fun k hk => by rw [u2_k (by decide)]; exact g1 k hk, fun k hk => by rw [u2_k (by decide)]; exact g2 k hk, fun k h4 h0 => by rw [u2_k h0, g3 k h4], u2_s, fun j hj => by rw [u2_j hj, e0]⟩
    · obtain ⟨g1, g2, g3⟩ := hx
      have e0 : x 0 = M 0 := g3 0 (by decide)
      have e2 : x 2 = M 2 := g3 2 (by decide)
      have hle : ¬ 407 ≤ f := by omega
      have hb : cnt * 407 + f < 3256 := by omega
      refine ⟨up2 x 4 (cnt * 407 + f) (M 2 f), ⟨fun k hk => ?_, fun k hk => by rw [u2_j (by omega)]; exact g2 k hk, fun k hk => by rw [u2_k hk, g3 k hk]⟩, ?_⟩
      · by_cases e : k = f
        · subst e; rw [u2_s]
        · rw [u2_j (by omega)]; exact g1 k (by omega)
      · simp only [F_X10_ends_L72]
        simp (disch := first | omega | exact hB _) only [hle, e0, h1, e2, ob_s, ob2_s, chk_t, lt_s', litI, n_add, n_mul, n_sub, inb_n, ix_n, n_le, n_lt, n_eq, n_bit, n_m1_lt, n_m1_eq, n_m1_m, n_ne_m, n_m_ne, n_m_lt0, n_0_le_m, if_true, if_false, eq_self, not_true_eq_false, not_false_eq_true, isB_0, isB_1, Bool.false_eq_true, true_and, and_true, false_and, and_false, and_self, Nat.one_ne_zero, Nat.zero_ne_one, reduceIte]
  obtain ⟨r, e1, e2, e3⟩ := key
  exact ⟨r.2, by rw [← e2] at e1 ⊢; exact e1, e3⟩
theorem R_ends {cnt : Nat} {past : Nat → Nat → Nat} {x1 : Int32} (h0 : M 0 0 = nI 0) (hc : cnt ≤ 8) (h1 : M 0 1 = nI cnt) (hp : ∀ i, i < cnt → ∀ k, k < 407 → M 4 (i * 407 + k) = nI (past i k)) (h2 : ∀ k, k < 407 → M 2 k = nI (V k)) (hn : 2850 ≤ n) :
    ∃ M', F_X10_ends n x1 M = some (x1, M') ∧ M' 0 1 = nI (if cnt = 8 then 8 else cnt + 1) ∧ (∀ i, i < (if cnt = 8 then 8 else cnt + 1) → ∀ k, k < 407 → M' 4 (i * 407 + k) = nI (pushP cnt past V i k)) ∧ (∀ k, k ≠ 4 → k ≠ 0 → M' k = M k) ∧ ∀ j, j ≠ 1 → M' 0 j = M 0 j := by
  have hB : ∀ k : Nat, 0 ≤ k := fun _ => Nat.zero_le _
  unfold F_X10_ends
  by_cases h8 : cnt = 8
  · subst h8
    have key : ∃ r, F_X10_ends_L31 n n x1 (nI 0) M = some r ∧ r.1 = x1 ∧ (∀ i, i < 7 → ∀ k, k < 407 → r.2 4 (i * 407 + k) = nI (past (i + 1) k)) ∧ (∀ k, k < 407 → r.2 4 (7 * 407 + k) = nI (V k)) ∧ (∀ k, k ≠ 4 → k ≠ 0 → r.2 k = M k) ∧ r.2 0 1 = nI 8 ∧ ∀ j, j ≠ 1 → r.2 0 j = M 0 j := by
      refine loopI (fun k f x => F_X10_ends_L31 n k x1 (nI f) x) (fun f x => (∀ k, k < f → x 4 k = M 4 (k + 407)) ∧ (∀ k, f ≤ k → x 4 k = M 4 k) ∧ ∀ k, k ≠ 4 → x k = M k) _ 0 2849 (fun k x hx => ?_) (fun k f x hs hf hx => ?_) n (by omega) (by omega) M ⟨fun k hk => absurd hk (Nat.not_lt_zero _), fun _ _ => rfl, fun _ _ => rfl⟩
      · obtain ⟨g1, g2, g3⟩ := hx
        have e0 : x 0 = M 0 := g3 0 (by decide)
        obtain ⟨M', q1, q2, q3, q4, q5, q6⟩ := R_L72 (n := n) (M := up2 x 0 1 (nI 7)) (cnt := 7) (x1 := x1) (by decide) u2_s (by omega)
        refine ⟨(x1, M'), ?_, rfl, fun i hi k hk => ?_, fun k hk => ?_, fun k h4 h0 => ?_, q5, fun j hj => ?_⟩
        · simp only [F_X10_ends_L31]
          simp (disch := first | omega | exact hB _) only [Nat.le_refl, e0, h1, ob_s, ob2_s, chk_t, lt_s', litI, n_add, n_mul, n_sub, inb_n, ix_n, n_le, n_lt, n_eq, n_bit, n_m1_lt, n_m1_eq, n_m1_m, n_ne_m, n_m_ne, n_m_lt0, n_0_le_m, if_true, if_false, eq_self, not_true_eq_false, not_false_eq_true, isB_0, isB_1, Bool.false_eq_true, true_and, and_true, false_and, and_false, and_self, Nat.one_ne_zero, Nat.zero_ne_one, reduceIte]
          exact q1
        · show M' 4 (i * 407 + k) = _
          rw [q3 _ (by omega), u2_k (by decide), g1 _ (by omega), show i * 407 + k + 407 = (i + 1) * 407 + k by omega]
          exact hp (i + 1) (by omega) k hk
        · show M' 4 (7 * 407 + k) = _
          rw [q2 k hk, u2_k (by decide), g3 2 (by decide)]
          exact h2 k hk
        · show M' k = _
          rw [q4 k h4 h0, u2_k h0, g3 k h4]
        · show M' 0 j = _
          rw [q6 j hj, u2_j hj, e0]
      · obtain ⟨g1, g2, g3⟩ := hx
        have hle : ¬ 2849 ≤ f := by omega
        refine ⟨up2 x 4 f (x 4 (f + 407)), ⟨fun k hk => ?_, fun k hk => by rw [u2_j (by omega)]; exact g2 k (by omega), fun k hk => by rw [u2_k hk, g3 k hk]⟩, ?_⟩
        · by_cases e : k = f
          · subst e; rw [u2_s]; exact g2 _ (by omega)
          · rw [u2_j e]; exact g1 k (by omega)
        · simp only [F_X10_ends_L31]
          simp (disch := first | omega | exact hB _) only [hle, ob_s, ob2_s, chk_t, lt_s', litI, n_add, n_mul, n_sub, inb_n, ix_n, n_le, n_lt, n_eq, n_bit, n_m1_lt, n_m1_eq, n_m1_m, n_ne_m, n_m_ne, n_m_lt0, n_0_le_m, if_true, if_false, eq_self, not_true_eq_false, not_false_eq_true, isB_0, isB_1, Bool.false_eq_true, true_and, and_true, false_and, and_false, and_self, Nat.one_ne_zero, Nat.zero_ne_one, reduceIte]
    obtain ⟨r, e1, e2, e3, e4, e5, e6, e7⟩ := key
    refine ⟨r.2, ?_, e6, fun i hi k hk => ?_, e5, e7⟩
    · simp (disch := first | omega | exact hB _) only [h0, h1, ob_s, ob2_s, chk_t, lt_s', litI, n_add, n_mul, n_sub, inb_n, ix_n, n_le, n_lt, n_eq, n_bit, n_m1_lt, n_m1_eq, n_m1_m, n_ne_m, n_m_ne, n_m_lt0, n_0_le_m, if_true, if_false, eq_self, not_true_eq_false, not_false_eq_true, isB_0, isB_1, Bool.false_eq_true, true_and, and_true, false_and, and_false, and_self, Nat.one_ne_zero, Nat.zero_ne_one, reduceIte]
      rw [e1]
      show some r = _
      rw [← e2]
    · unfold pushP
      rw [if_pos rfl] at hi
      rw [if_pos rfl]
      by_cases e : i = 7
      · subst e; rw [if_pos rfl]; exact e4 k hk
      · rw [if_neg e]; exact e3 i (by omega) k hk
  · obtain ⟨M', q1, q2, q3, q4, q5, q6⟩ := R_L72 (n := n) (M := M) (cnt := cnt) (x1 := x1) (by omega) h1 (by omega)
    refine ⟨M', ?_, by rw [if_neg h8]; exact q5, fun i hi k hk => ?_, q4, q6⟩
    · simp (disch := first | omega | exact hB _) only [h0, h1, h8, ob_s, ob2_s, chk_t, lt_s', litI, n_add, n_mul, n_sub, inb_n, ix_n, n_le, n_lt, n_eq, n_bit, n_m1_lt, n_m1_eq, n_m1_m, n_ne_m, n_m_ne, n_m_lt0, n_0_le_m, if_true, if_false, eq_self, not_true_eq_false, not_false_eq_true, isB_0, isB_1, Bool.false_eq_true, true_and, and_true, false_and, and_false, and_self, Nat.one_ne_zero, Nat.zero_ne_one, reduceIte]
      exact q1
    · unfold pushP
      rw [if_neg h8] at hi
      rw [if_neg h8]
      by_cases e : i = cnt
      · subst e; rw [if_pos rfl, q2 k hk]; exact h2 k hk
      · rw [if_neg e, q3 _ (by have := Nat.mul_le_mul_right 407 (show i + 1 ≤ cnt by omega); omega)]; exact hp i (by omega) k hk
theorem R_ends_no {x1 : Int32} (h0 : M 0 0 ≠ nI 0) (hn : 408 ≤ n) : ∃ M', F_X10_ends n x1 M = some (nI 0, M') ∧ (∀ k, k < 407 → M' 1 k = M 2 k) ∧ ∀ k, k ≠ 1 → M' k = M k := by
  obtain ⟨M', e1, e2, e3⟩ := R_lays (n := n) (M := M) (o0 := 1) (o1 := 2) (by decide) hn
  refine ⟨M', ?_, e2, e3⟩
  unfold F_X10_ends
  rw [litN, if_neg h0, e1, ob_s]
end ROW
