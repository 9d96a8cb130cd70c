/-! ===== PURE: copies, history, rows ===== -/
theorem ur_s {M : Mem} {k : Nat} {v : Nat → Int32} : upr M k v k = v := if_pos rfl
theorem ur_k {M : Mem} {k k' : Nat} {v : Nat → Int32} (h : k' ≠ k) : upr M k v k' = M k' := if_neg h
theorem cpy0 {f g : Nat → Int32} {N k : Nat} (h : k < N) : va_cpy f g 0 0 N k = f k := by
  unfold va_cpy
  rw [if_pos (by omega), Nat.sub_zero, Nat.zero_add]
section CPY
variable {n a o c : Nat} {M Mm : Mem} {V : Nat → Nat}
theorem AR.cong {M' : Mem} (W : WF c V) (h : AR M a V) (hM : ∀ k, a ≤ k → k < a + 31 → M' k = M k) : AR M' a V := by
  obtain ⟨a1, a2, a3, a4, a5, a6, a7, a8, a9⟩ := h
  unfold AR
  rw [hM a (by omega) (by omega), hM (a + 1) (by omega) (by omega), hM (a + 2) (by omega) (by omega), hM (a + 3) (by omega) (by omega), hM (a + 4) (by omega) (by omega), hM (a + 5) (by omega) (by omega)]
  exact ⟨a1, a2, a3, a4, a5, a6, a7, a8, fun i hi => (a9 i hi).keep W hi (fun k h1 h2 => hM k (by omega) (by omega)) (fun _ _ => rfl) (fun _ _ => rfl)⟩
theorem X6_copy {i mo mo' : Nat} (W : WF c V) (hi : i < 6) (h : MR M mo' V i) (hd : mo + 4 ≤ mo' ∨ mo' + 4 ≤ mo) : ∃ M', F_X6_copyFrom n mo mo' M = some M' ∧ MR M' mo V i ∧ ∀ k, k < mo ∨ mo + 4 ≤ k → M' k = M k := by
  obtain ⟨a0, a2, a3, a4, a7, a9, a10, a11, b1, b2, w, b3, b4, b5⟩ := h
  obtain ⟨_, w1, w2, w3, _, w5, _, w7, _, _, _, _⟩ := W.mo hi
  have hB := W.b
  have i1 := isB_le w1
  have i2 := isB_le w2
  have i3 := isB_le w3
  unfold F_X6_copyFrom
  simp (disch := first | omega | exact hB _) only [u2_k, u2_j, u2_s, ur_k, ur_s, a0, a2, a3, a4, a7, a9, a10, a11, b4, i1, i2, i3, ob_s, ob2_s, chk_t, lt_s', litI, n_add, n_mul, n_sub, inb_n, ix_n, n_le, n_lt, n_eq, n_bit, n_m1_lt, n_m1_eq, n_m1_m, n_ne_m, n_m_ne, n_m_lt0, n_0_le_m, if_true, if_false, eq_self, not_true_eq_false, not_false_eq_true, isB_0, isB_1, Bool.false_eq_true, true_and, and_true, false_and, and_false, and_self, Nat.one_ne_zero, Nat.zero_ne_one, reduceIte]
  refine ⟨_, rfl, ?_, fun k hk => ?_⟩
  · unfold MR
    simp (disch := first | omega | exact hB _) only [u2_k, u2_j, u2_s, ur_k, ur_s, ob_s, ob2_s, chk_t, lt_s', litI, n_add, n_mul, n_sub, inb_n, ix_n, n_le, n_lt, n_eq, n_bit, n_m1_lt, n_m1_eq, n_m1_m, n_ne_m, n_m_ne, n_m_lt0, n_0_le_m, if_true, if_false, eq_self, not_true_eq_false, not_false_eq_true, isB_0, isB_1, Bool.false_eq_true, true_and, and_true, false_and, and_false, and_self, Nat.one_ne_zero, Nat.zero_ne_one, reduceIte]
    refine ⟨fun k hk => ?_, fun k hk => ?_, w, b3, rfl, b5⟩
    · rw [cpy0 (by omega)]; exact b1 k hk
    · rw [cpy0 (by omega), cpy0 (by omega)]; exact b2 k hk
  · rw [u2_k (by omega), u2_k (by omega), u2_k (by omega), u2_k (by omega), u2_k (by omega), ur_k (by omega), ur_k (by omega), u2_k (by omega), u2_k (by omega), u2_k (by omega), ur_k (by omega), u2_k (by omega)]
theorem X2_copy (W : WF c V) (hn : 7 ≤ n) (h : AR M o V) (hd : a + 31 ≤ o ∨ o + 31 ≤ a) : ∃ M', F_X2_copyFrom n a o M = some M' ∧ AR M' a V ∧ ∀ k, k < a ∨ a + 31 ≤ k → M' k = M k := by
  obtain ⟨a0, a6, a8, a10, a11, f1, f2, ⟨w, w1, w2, w3⟩, m1⟩ := h
  have hB := W.b
  have hF := W.F
  unfold F_X2_copyFrom
  simp (disch := first | omega | exact hB _) only [u2_k, u2_j, u2_s, ur_k, ur_s, a0, a6, a8, a10, a11, w2, ob_s, ob2_s, chk_t, lt_s', litI, n_add, n_mul, n_sub, inb_n, ix_n, n_le, n_lt, n_eq, n_bit, n_m1_lt, n_m1_eq, n_m1_m, n_ne_m, n_m_ne, n_m_lt0, n_0_le_m, if_true, if_false, eq_self, not_true_eq_false, not_false_eq_true, isB_0, isB_1, Bool.false_eq_true, true_and, and_true, false_and, and_false, and_self, Nat.one_ne_zero, Nat.zero_ne_one, reduceIte]
  generalize hM1 : up2 (upr (up2 (up2 (upr (upr (upr (upr (up2 M a 0 (nI (V 0))) (a + 1) (va_cpy (M (o + 1)) (M (a + 1)) 0 0 12)) (a + 2) (va_cpy (M (o + 2)) (M (a + 2)) 0 0 12)) (a + 3) (va_cpy (M (o + 3)) (M (a + 3)) 0 0 12)) (a + 4) (va_cpy (M (o + 4)) (M (a + 4)) 0 0 12)) a 5 (nI w)) a 6 (nI (V 1))) (a + 5) (va_cpy (M (o + 5)) (M (a + 5)) 0 0 6)) a 8 (nI (V 2)) = M1
  have fr : ∀ k, k < a ∨ a + 6 ≤ k → M1 k = M k := fun k hk => by
    rw [← hM1, u2_k (by omega), ur_k (by omega), u2_k (by omega), u2_k (by omega), ur_k (by omega), ur_k (by omega), ur_k (by omega), ur_k (by omega), u2_k (by omega)]
  have g0 : M1 a 0 = nI (V 0) := by rw [← hM1]; simp (disch := first | omega | exact hB _) only [u2_k, u2_j, u2_s, ur_k, ur_s, ob_s, ob2_s, chk_t, lt_s', litI, n_add, n_mul, n_sub, inb_n, ix_n, n_le, n_lt, n_eq, n_bit, n_m1_lt, n_m1_eq, n_m1_m, n_ne_m, n_m_ne, n_m_lt0, n_0_le_m, if_true, if_false, eq_self, not_true_eq_false, not_false_eq_true, isB_0, isB_1, Bool.false_eq_true, true_and, and_true, false_and, and_false, and_self, Nat.one_ne_zero, Nat.zero_ne_one, reduceIte]
  have g5 : M1 a 5 = nI w := by rw [← hM1]; simp (disch := first | omega | exact hB _) only [u2_k, u2_j, u2_s, ur_k, ur_s, ob_s, ob2_s, chk_t, lt_s', litI, n_add, n_mul, n_sub, inb_n, ix_n, n_le, n_lt, n_eq, n_bit, n_m1_lt, n_m1_eq, n_m1_m, n_ne_m, n_m_ne, n_m_lt0, n_0_le_m, if_true, if_false, eq_self, not_true_eq_false, not_false_eq_true, isB_0, isB_1, Bool.false_eq_true, true_and, and_true, false_and, and_false, and_self, Nat.one_ne_zero, Nat.zero_ne_one, reduceIte]
  have g6 : M1 a 6 = nI (V 1) := by rw [← hM1]; simp (disch := first | omega | exact hB _) only [u2_k, u2_j, u2_s, ur_k, ur_s, ob_s, ob2_s, chk_t, lt_s', litI, n_add, n_mul, n_sub, inb_n, ix_n, n_le, n_lt, n_eq, n_bit, n_m1_lt, n_m1_eq, n_m1_m, n_ne_m, n_m_ne, n_m_lt0, n_0_le_m, if_true, if_false, eq_self, not_true_eq_false, not_false_eq_true, isB_0, isB_1, Bool.false_eq_true, true_and, and_true, false_and, and_false, and_self, Nat.one_ne_zero, Nat.zero_ne_one, reduceIte]
  have g8 : M1 a 8 = nI (V 2) := by rw [← hM1]; simp (disch := first | omega | exact hB _) only [u2_k, u2_j, u2_s, ur_k, ur_s, ob_s, ob2_s, chk_t, lt_s', litI, n_add, n_mul, n_sub, inb_n, ix_n, n_le, n_lt, n_eq, n_bit, n_m1_lt, n_m1_eq, n_m1_m, n_ne_m, n_m_ne, n_m_lt0, n_0_le_m, if_true, if_false, eq_self, not_true_eq_false, not_false_eq_true, isB_0, isB_1, Bool.false_eq_true, true_and, and_true, false_and, and_false, and_self, Nat.one_ne_zero, Nat.zero_ne_one, reduceIte]
  have gp : ∀ f, f < 12 → M1 (a + 1) f = M (o + 1) f := fun f hf => by rw [← hM1]; simp (disch := first | omega | exact hB _) only [u2_k, u2_j, u2_s, ur_k, ur_s, cpy0, ob_s, ob2_s, chk_t, lt_s', litI, n_add, n_mul, n_sub, inb_n, ix_n, n_le, n_lt, n_eq, n_bit, n_m1_lt, n_m1_eq, n_m1_m, n_ne_m, n_m_ne, n_m_lt0, n_0_le_m, if_true, if_false, eq_self, not_true_eq_false, not_false_eq_true, isB_0, isB_1, Bool.false_eq_true, true_and, and_true, false_and, and_false, and_self, Nat.one_ne_zero, Nat.zero_ne_one, reduceIte]
  have gw : ∀ f, f < 12 → M1 (a + 2) f = M (o + 2) f := fun f hf => by rw [← hM1]; simp (disch := first | omega | exact hB _) only [u2_k, u2_j, u2_s, ur_k, ur_s, cpy0, ob_s, ob2_s, chk_t, lt_s', litI, n_add, n_mul, n_sub, inb_n, ix_n, n_le, n_lt, n_eq, n_bit, n_m1_lt, n_m1_eq, n_m1_m, n_ne_m, n_m_ne, n_m_lt0, n_0_le_m, if_true, if_false, eq_self, not_true_eq_false, not_false_eq_true, isB_0, isB_1, Bool.false_eq_true, true_and, and_true, false_and, and_false, and_self, Nat.one_ne_zero, Nat.zero_ne_one, reduceIte]
  have gs : ∀ f, f < 12 → M1 (a + 3) f = M (o + 3) f := fun f hf => by rw [← hM1]; simp (disch := first | omega | exact hB _) only [u2_k, u2_j, u2_s, ur_k, ur_s, cpy0, ob_s, ob2_s, chk_t, lt_s', litI, n_add, n_mul, n_sub, inb_n, ix_n, n_le, n_lt, n_eq, n_bit, n_m1_lt, n_m1_eq, n_m1_m, n_ne_m, n_m_ne, n_m_lt0, n_0_le_m, if_true, if_false, eq_self, not_true_eq_false, not_false_eq_true, isB_0, isB_1, Bool.false_eq_true, true_and, and_true, false_and, and_false, and_self, Nat.one_ne_zero, Nat.zero_ne_one, reduceIte]
  have gk : ∀ f, f < 12 → M1 (a + 4) f = M (o + 4) f := fun f hf => by rw [← hM1]; simp (disch := first | omega | exact hB _) only [u2_k, u2_j, u2_s, ur_k, ur_s, cpy0, ob_s, ob2_s, chk_t, lt_s', litI, n_add, n_mul, n_sub, inb_n, ix_n, n_le, n_lt, n_eq, n_bit, n_m1_lt, n_m1_eq, n_m1_m, n_ne_m, n_m_ne, n_m_lt0, n_0_le_m, if_true, if_false, eq_self, not_true_eq_false, not_false_eq_true, isB_0, isB_1, Bool.false_eq_true, true_and, and_true, false_and, and_false, and_self, Nat.one_ne_zero, Nat.zero_ne_one, reduceIte]
  have gc : ∀ f, f < 6 → M1 (a + 5) f = M (o + 5) f := fun f hf => by rw [← hM1]; simp (disch := first | omega | exact hB _) only [u2_k, u2_j, u2_s, ur_k, ur_s, cpy0, ob_s, ob2_s, chk_t, lt_s', litI, n_add, n_mul, n_sub, inb_n, ix_n, n_le, n_lt, n_eq, n_bit, n_m1_lt, n_m1_eq, n_m1_m, n_ne_m, n_m_ne, n_m_lt0, n_0_le_m, if_true, if_false, eq_self, not_true_eq_false, not_false_eq_true, isB_0, isB_1, Bool.false_eq_true, true_and, and_true, false_and, and_false, and_self, Nat.one_ne_zero, Nat.zero_ne_one, reduceIte]
  refine loopI (fun k f x => F_X2_copyFrom_L109 n a o k (nI f) x) (fun i x => (∀ i', i' < i → MR x (a + 6 + 1 + 4 * i') V i') ∧ ∀ k, k < a + 7 ∨ a + 31 ≤ k → x k = M1 k) (fun M' => AR M' a V ∧ ∀ k, k < a ∨ a + 31 ≤ k → M' k = M k) 0 6 (fun k x hx => ?_) (fun k i x hs hi hx => ?_) n (by omega) (by omega) M1 ⟨fun i' hi' => absurd hi' (Nat.not_lt_zero _), fun k _ => rfl⟩
  · obtain ⟨h1, h2⟩ := hx
    have ho : x o = M o := by rw [h2 o (by omega), fr o (by omega)]
    have ha : x a = M1 a := h2 a (by omega)
    refine ⟨up2 (up2 x a 10 (nI (V 3))) a 11 (nI (V 4)), ?_, ?_, fun k hk => by rw [u2_k (by omega), u2_k (by omega), h2 k (by omega), fr k (by omega)]⟩
    · simp only [F_X2_copyFrom_L109]
      simp (disch := first | omega | exact hB _) only [Nat.le_refl, ho, a10, a11, u2_k, ob_s, ob2_s, chk_t, lt_s', litI, n_add, n_mul, n_sub, inb_n, ix_n, n_le, n_lt, n_eq, n_bit, n_m1_lt, n_m1_eq, n_m1_m, n_ne_m, n_m_ne, n_m_lt0, n_0_le_m, if_true, if_false, eq_self, not_true_eq_false, not_false_eq_true, isB_0, isB_1, Bool.false_eq_true, true_and, and_true, false_and, and_false, and_self, Nat.one_ne_zero, Nat.zero_ne_one, reduceIte]
    · refine ⟨?_, ?_, ?_, ?_, ?_, ?_, ?_, ⟨w, w1, ?_, w3⟩, ?_⟩
      · rw [u2_j (by decide), u2_j (by decide), ha, g0]
      · rw [u2_j (by decide), u2_j (by decide), ha, g6]
      · rw [u2_j (by decide), u2_j (by decide), ha, g8]
      · rw [u2_j (by decide), u2_s]
      · rw [u2_s]
      · intro f hf
        rw [u2_k (by omega), u2_k (by omega), u2_k (by omega), u2_k (by omega), u2_k (by omega), u2_k (by omega), u2_k (by omega), u2_k (by omega), h2 (a + 1) (by omega), h2 (a + 2) (by omega), h2 (a + 3) (by omega), h2 (a + 4) (by omega), gp f hf, gw f hf, gs f hf, gk f hf]
        exact f1 f hf
      · intro p hp
        rw [u2_k (by omega), u2_k (by omega), h2 (a + 5) (by omega), gc p hp]
        exact f2 p hp
      · rw [u2_j (by decide), u2_j (by decide), ha, g5]
      · intro i hi
        exact (h1 i hi).keep W hi (fun k h3 h4 => by rw [u2_k (by omega), u2_k (by omega)]) (fun _ _ => rfl) (fun _ _ => rfl)
  · obtain ⟨h1, h2⟩ := hx
    have hsrc : MR x (o + 6 + 1 + 4 * i) V i := (m1 i hi).keep W hi (fun k h3 h4 => by rw [h2 k (by omega), fr k (by omega)]) (fun _ _ => rfl) (fun _ _ => rfl)
    obtain ⟨x', e1, e2, e3⟩ := X6_copy (n := n) (mo := a + 6 + 1 + 4 * i) W hi hsrc (by omega)
    have hle : ¬ 6 ≤ i := by omega
    refine ⟨x', ⟨fun i' hi' => ?_, fun k hk => by rw [e3 k (by omega), h2 k hk]⟩, ?_⟩
    · by_cases e : i' = i
      · subst e; exact e2
      · exact (h1 i' (by omega)).keep W (by omega) (fun k h3 h4 => e3 k (by omega)) (fun _ _ => rfl) (fun _ _ => rfl)
    · simp only [F_X2_copyFrom_L109]
      simp (disch := first | omega | exact hB _) only [hle, e1, ob_s, ob2_s, chk_t, lt_s', litI, n_add, n_mul, n_sub, inb_n, ix_n, n_le, n_lt, n_eq, n_bit, n_m1_lt, n_m1_eq, n_m1_m, n_ne_m, n_m_ne, n_m_lt0, n_0_le_m, if_true, if_false, eq_self, not_true_eq_false, not_false_eq_true, isB_0, isB_1, Bool.false_eq_true, true_and, and_true, false_and, and_false, and_self, Nat.one_ne_zero, Nat.zero_ne_one, reduceIte]
/-! the history -/
theorem mod8 : ∀ x, x < 8 → (nI x + nI 1) - (nI x + nI 1) / nI 8 * nI 8 = nI ((x + 1) % 8) := by decide +kernel
theorem mod8p : ∀ x, x < 8 → ((nI x + nI 8) - nI 1) - ((nI x + nI 8) - nI 1) / nI 8 * nI 8 = nI ((x + 7) % 8) := by decide +kernel
theorem litN (n : Nat) : (OfNat.ofNat n : Int32) = nI (OfNat.ofNat n) := rfl
def HR (c : Nat) (M Mm : Mem) (cnt : Nat) (past : Nat → Nat → Nat) : Prop :=
  cnt ≤ 8 ∧ Mm 0 1 = nI cnt ∧ M 94 2 = nI cnt ∧ (∃ nx, nx < 8 ∧ M 94 1 = nI nx ∧ ∀ i, i < cnt → AR M (96 + 31 * ((nx + 8 - cnt + i) % 8)) (past i)) ∧ ∀ i, i < cnt → WF c (past i) ∧ ∀ k, k < 407 → Mm 4 (i * 407 + k) = nI (past i k)
/-- V put behind -/
def pushP (cnt : Nat) (past : Nat → Nat → Nat) (V : Nat → Nat) : Nat → Nat → Nat := fun i => if cnt = 8 then (if i = 7 then V else past (i + 1)) else (if i = cnt then V else past i)
theorem C_push {cnt nx : Nat} {past : Nat → Nat → Nat} (W : WF c V) (hn : 7 ≤ n) (hA : AR M o V) (ho : o + 31 ≤ 94) (hP : ∀ i, i < cnt → WF c (past i)) (hc : cnt ≤ 8) (h2 : M 94 2 = nI cnt) (hx : nx < 8) (h1 : M 94 1 = nI nx) (hH : ∀ i, i < cnt → AR M (96 + 31 * ((nx + 8 - cnt + i) % 8)) (past i)) :
    ∃ M', F_X5_push n 94 o M = some M' ∧ (∀ k, k < 94 ∨ 344 ≤ k → M' k = M k) ∧ M' 94 2 = nI (if cnt = 8 then 8 else cnt + 1) ∧ ∃ nx', nx' < 8 ∧ M' 94 1 = nI nx' ∧ ∀ i, i < (if cnt = 8 then 8 else cnt + 1) → AR M' (96 + 31 * ((nx' + 8 - (if cnt = 8 then 8 else cnt + 1) + i) % 8)) (pushP cnt past V i) := by
  have hB := W.b
  obtain ⟨M1, e1, e2, e3⟩ := X2_copy (n := n) (a := 94 + 1 + 1 + 31 * nx) W hn hA (by omega)
  have q1 : M1 94 1 = nI nx := by rw [e3 94 (by omega), h1]
  have q2 : M1 94 2 = nI cnt := by rw [e3 94 (by omega), h2]
  have em := mod8 nx hx
  unfold F_X5_push
  rw [h1, inb_n hx (by decide), chk_t, ix_n (by omega), e1, ob_s, lt_s', q1, litN, litN, em]
  have hA1 : ∀ i, i < cnt → (nx + 8 - cnt + i) % 8 ≠ nx → AR M1 (96 + 31 * ((nx + 8 - cnt + i) % 8)) (past i) := fun i hi hne => (hH i hi).cong (hP i hi) (fun k h3 h4 => e3 k (by omega))
  by_cases h8 : cnt = 8
  · rw [if_pos h8, u2_j (by decide), q2, if_pos (by rw [n_le (by decide) (by omega)]; omega)]
    refine ⟨_, rfl, fun k hk => by rw [u2_k (by omega), e3 k (by omega)], by rw [u2_j (by decide), q2, h8], (nx + 1) % 8, by omega, u2_s, fun i hi => ?_⟩
    unfold pushP
    rw [if_pos h8]
    by_cases e : i = 7
    · rw [if_pos e]
      refine AR.cong (M := M1) W ?_ (fun k h3 h4 => u2_k (by omega))
      rw [show 96 + 31 * (((nx + 1) % 8 + 8 - 8 + i) % 8) = 94 + 1 + 1 + 31 * nx by omega]
      exact e2
    · rw [if_neg e]
      have q := hA1 (i + 1) (by omega) (by omega)
      rw [show (nx + 8 - cnt + (i + 1)) % 8 = ((nx + 1) % 8 + 8 - 8 + i) % 8 by omega] at q
      exact q.cong (hP (i + 1) (by omega)) (fun k h3 h4 => u2_k (by omega))
  · rw [if_neg h8, u2_j (by decide), q2, if_neg (by rw [n_le (by decide) (by omega)]; omega)]
    refine ⟨_, rfl, fun k hk => by rw [u2_k (by omega), u2_k (by omega), e3 k (by omega)], by rw [u2_s, n_add], (nx + 1) % 8, by omega, by rw [u2_j (by decide), u2_s], fun i hi => ?_⟩
    unfold pushP
    rw [if_neg h8]
    by_cases e : i = cnt
    · rw [if_pos e]
      refine AR.cong (M := M1) W ?_ (fun k h3 h4 => by rw [u2_k (by omega), u2_k (by omega)])
      rw [show 96 + 31 * (((nx + 1) % 8 + 8 - (cnt + 1) + i) % 8) = 94 + 1 + 1 + 31 * nx by omega]
      exact e2
    · rw [if_neg e]
      have q := hA1 i (by omega) (by omega)
      rw [show (nx + 8 - cnt + i) % 8 = ((nx + 1) % 8 + 8 - (cnt + 1) + i) % 8 by omega] at q
      exact q.cong (hP i (by omega)) (fun k h3 h4 => by rw [u2_k (by omega), u2_k (by omega)])
end CPY
