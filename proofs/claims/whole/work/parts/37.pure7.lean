/-! ===== PURE: call, support, decide, croak ===== -/
section CAL
variable {n a c : Nat} {M Mm : Mem} {V : Nat → Nat}
theorem cnt_AR {M' : Mem} {i x : Nat} (W : WF c V) (hA : AR M a V) (hi : i < 6) (hx : x < 12) {u v w z : Nat}
    (g0 : ∀ k, k ≠ a → k ≠ a + 4 → k ≠ a + 6 + 1 + 4 * i → M' k = M k) (g1 : M' a 10 = nI w) (g2 : M' a 11 = nI z) (g3 : ∀ j, j ≠ 10 → j ≠ 11 → M' a j = M a j)
    (g4 : M' (a + 4) x = nI u) (g5 : ∀ j, j ≠ x → M' (a + 4) j = M (a + 4) j) (g6 : M' (a + 6 + 1 + 4 * i) 11 = nI v) (g7 : ∀ j, j ≠ 11 → M' (a + 6 + 1 + 4 * i) j = M (a + 6 + 1 + 4 * i) j) :
    AR M' a (sV (sV (sV (sV V (41 + x) u) (59 + 10 * i + 6) v) 3 w) 4 z) := by
  have hB := W.b
  have hF := W.F
  refine ⟨?_, ?_, ?_, ?_, ?_, ?_, ?_, ?_, ?_⟩
  · simp (disch := first | omega | exact hB _) only [g3, sV_n, hA.F, ob_s, ob2_s, chk_t, lt_s', litI, n_add, n_mul, n_sub, inb_n, ix_n, n_le, n_lt, n_eq, n_bit, n_m1_lt, n_m1_eq, n_m1_m, n_ne_m, n_m_ne, n_m_lt0, n_0_le_m, if_true, if_false, eq_self, not_true_eq_false, not_false_eq_true, isB_0, isB_1, Bool.false_eq_true, true_and, and_true, false_and, and_false, and_self, Nat.one_ne_zero, Nat.zero_ne_one, reduceIte]
  · simp (disch := first | omega | exact hB _) only [g3, sV_n, hA.P, ob_s, ob2_s, chk_t, lt_s', litI, n_add, n_mul, n_sub, inb_n, ix_n, n_le, n_lt, n_eq, n_bit, n_m1_lt, n_m1_eq, n_m1_m, n_ne_m, n_m_ne, n_m_lt0, n_0_le_m, if_true, if_false, eq_self, not_true_eq_false, not_false_eq_true, isB_0, isB_1, Bool.false_eq_true, true_and, and_true, false_and, and_false, and_self, Nat.one_ne_zero, Nat.zero_ne_one, reduceIte]
  · simp (disch := first | omega | exact hB _) only [g3, sV_n, hA.Mo, ob_s, ob2_s, chk_t, lt_s', litI, n_add, n_mul, n_sub, inb_n, ix_n, n_le, n_lt, n_eq, n_bit, n_m1_lt, n_m1_eq, n_m1_m, n_ne_m, n_m_ne, n_m_lt0, n_0_le_m, if_true, if_false, eq_self, not_true_eq_false, not_false_eq_true, isB_0, isB_1, Bool.false_eq_true, true_and, and_true, false_and, and_false, and_self, Nat.one_ne_zero, Nat.zero_ne_one, reduceIte]
  · rw [g1, sV_n (by omega), sV_s]
  · rw [g2, sV_s]
  · intro f hf
    obtain ⟨e1, e2, e3, e4⟩ := hA.fr f hf
    refine ⟨?_, ?_, fun hf2 => ?_, ?_⟩
    · simp (disch := first | omega | exact hB _) only [g0, sV_n, e1, ob_s, ob2_s, chk_t, lt_s', litI, n_add, n_mul, n_sub, inb_n, ix_n, n_le, n_lt, n_eq, n_bit, n_m1_lt, n_m1_eq, n_m1_m, n_ne_m, n_m_ne, n_m_lt0, n_0_le_m, if_true, if_false, eq_self, not_true_eq_false, not_false_eq_true, isB_0, isB_1, Bool.false_eq_true, true_and, and_true, false_and, and_false, and_self, Nat.one_ne_zero, Nat.zero_ne_one, reduceIte]
    · simp (disch := first | omega | exact hB _) only [g0, sV_n, e2, ob_s, ob2_s, chk_t, lt_s', litI, n_add, n_mul, n_sub, inb_n, ix_n, n_le, n_lt, n_eq, n_bit, n_m1_lt, n_m1_eq, n_m1_m, n_ne_m, n_m_ne, n_m_lt0, n_0_le_m, if_true, if_false, eq_self, not_true_eq_false, not_false_eq_true, isB_0, isB_1, Bool.false_eq_true, true_and, and_true, false_and, and_false, and_self, Nat.one_ne_zero, Nat.zero_ne_one, reduceIte]
    · rw [sV_n (by omega), sV_n (by omega), sV_n (by omega), sV_n (by omega)] at hf2
      rw [g0 _ (by omega) (by omega) (by omega), sV_n (by omega), sV_n (by omega), sV_n (by omega), sV_n (by omega)]
      exact e3 hf2
    · by_cases e : f = x
      · subst e
        rw [g4, sV_n (by omega), sV_n (by omega), sV_n (by omega), sV_s]
      · rw [g5 f e, sV_n (by omega), sV_n (by omega), sV_n (by omega), sV_n (by omega)]
        exact e4
  · intro p hp
    rw [g0 _ (by omega) (by omega) (by omega), sV_n (by omega), sV_n (by omega), sV_n (by omega), sV_n (by omega)]
    exact hA.ca p hp
  · obtain ⟨w2, h1, h2, h3⟩ := hA.ma
    refine ⟨w2, h1, by rw [g3 5 (by decide) (by decide)]; exact h2, fun f hf => ?_⟩
    rw [h3 f hf, sV_n (by omega), sV_n (by omega), sV_n (by omega), sV_n (by omega)]
  · intro i' hi'
    by_cases e2 : i' = i
    · subst e2
      obtain ⟨a0, a2, a3, a4, a7, a9, a10, a11, b1, b2, b3⟩ := hA.mo i' hi'
      have hl := W.li hi'
      have hcl := W.ci hi'
      unfold MR
      simp (disch := first | omega | exact hB _) only [g7, g6, g0, sV_n, sV_s, ob_s, ob2_s, chk_t, lt_s', litI, n_add, n_mul, n_sub, inb_n, ix_n, n_le, n_lt, n_eq, n_bit, n_m1_lt, n_m1_eq, n_m1_m, n_ne_m, n_m_ne, n_m_lt0, n_0_le_m, if_true, if_false, eq_self, not_true_eq_false, not_false_eq_true, isB_0, isB_1, Bool.false_eq_true, true_and, and_true, false_and, and_false, and_self, Nat.one_ne_zero, Nat.zero_ne_one, reduceIte]
      refine ⟨a0, a2, a3, a4, a7, a9, a10, b1, fun k hk => ⟨(b2 k hk).1, ?_⟩, b3⟩
      have q := (W.cf hi' hk).1
      unfold stg
      simp (disch := first | omega | exact hB _) only [sV_n, ob_s, ob2_s, chk_t, lt_s', litI, n_add, n_mul, n_sub, inb_n, ix_n, n_le, n_lt, n_eq, n_bit, n_m1_lt, n_m1_eq, n_m1_m, n_ne_m, n_m_ne, n_m_lt0, n_0_le_m, if_true, if_false, eq_self, not_true_eq_false, not_false_eq_true, isB_0, isB_1, Bool.false_eq_true, true_and, and_true, false_and, and_false, and_self, Nat.one_ne_zero, Nat.zero_ne_one, reduceIte]
      exact (b2 k hk).2
    · refine (hA.mo i' hi').keep W hi' (fun k hk1 hk2 => g0 k (by omega) (by omega) (by omega)) (fun j hj => ?_) (fun f hf => ?_)
      · unfold inM at hj
        rw [sV_n (by omega), sV_n (by omega), sV_n (by omega), sV_n (by omega)]
      · rw [sV_n (by omega), sV_n (by omega), sV_n (by omega), sV_n (by omega)]
theorem s_callNext (hR : RR Mm V) (W : WF c V) (hc : c < 60000) (hn : 14 ≤ n) (hA : AR M a V) (x1 : Int32) :
    StpR a c [2, 5] 2 V M Mm (F_X2_refusalToCall n a x1) (F_X2_callFirst n a x1) (F_X10_calls n x1) := by
  have hB := W.b
  have hF := W.F
  have hP := W.M
  unfold StpR F_X10_calls
  rcases (Classical.em (isL x1 (V 2))).symm with h1 | ⟨i, hi, rfl⟩
  · refine .inl ⟨4, by decide, by decide, by decide, C_call0 hA W x1 h1, ?_⟩
    simp (disch := first | omega | exact hB _) only [R_isMotion_f hR hB h1, R_fail, ob_s, ob2_s, chk_t, lt_s', litI, n_add, n_mul, n_sub, inb_n, ix_n, n_le, n_lt, n_eq, n_bit, n_m1_lt, n_m1_eq, n_m1_m, n_ne_m, n_m_ne, n_m_lt0, n_0_le_m, if_true, if_false, eq_self, not_true_eq_false, not_false_eq_true, isB_0, isB_1, Bool.false_eq_true, true_and, and_true, false_and, and_false, and_self, Nat.one_ne_zero, Nat.zero_ne_one, reduceIte]
    rfl
  have hi6 : i < 6 := by omega
  have hl := W.li hi6
  rw [C_call1 hA W hi]
  by_cases h2 : V (59 + 10 * i + 5) = 0
  · refine .inl ⟨22, by decide, by decide, by decide, by rw [if_pos h2], ?_⟩
    simp (disch := first | omega | exact hB _) only [R_isMotion_t hR hB hi, n10, R_ranked hR W (by omega : 13 ≤ n) hi6 (by decide : 0 < 65536), h2, Nat.not_lt_zero, R_fail, ob_s, ob2_s, chk_t, lt_s', litI, n_add, n_mul, n_sub, inb_n, ix_n, n_le, n_lt, n_eq, n_bit, n_m1_lt, n_m1_eq, n_m1_m, n_ne_m, n_m_ne, n_m_lt0, n_0_le_m, if_true, if_false, eq_self, not_true_eq_false, not_false_eq_true, isB_0, isB_1, Bool.false_eq_true, true_and, and_true, false_and, and_false, and_self, Nat.one_ne_zero, Nat.zero_ne_one, reduceIte]
    rfl
  rw [if_neg h2]
  obtain ⟨q, hq0, hq, hrk⟩ := C_firstPlace (n := n) hA W (by omega) hi6 (by omega)
  obtain ⟨Mm1, t1, t2, t3⟩ := R_takes hR W (by omega : 13 ≤ n) hi6 hq
  have hx := W.lf hi6 hq
  have hx12 : V (119 + 12 * i + q) < 12 := by omega
  have W1 : WF c (remV V i q) := W.mot hi6 (Nat.le_refl _) (fun j hj => remV_o W hi6 hq (by unfold inM at hj; omega) (by unfold inM at hj; omega)) (rem_lt W hi6) (rem_WM W hi6 (Nat.le_refl _) hq)
  have o : ∀ j, j ≠ 59 + 10 * i + 5 → ¬ (119 + 12 * i ≤ j ∧ j < 131 + 12 * i) → remV V i q j = V j := fun j h5 h6 => remV_o W hi6 hq h5 h6
  have c1 : V (41 + V (119 + 12 * i + q)) ≤ c := (W.fr hx12).2.2.2.2.1
  have c2 : V (59 + 10 * i + 6) ≤ c := (W.mo hi6).2.2.2.2.2.2.1
  have c3 : V 3 ≤ c := W.2.2.2.2.1
  have c4 : V 4 ≤ c := W.2.2.2.2.2.1
  by_cases h3 : V (29 + V (119 + 12 * i + q)) = 0
  · refine .inr ⟨rfl, sV (sV (sV (sV (remV V i q) (41 + V (119 + 12 * i + q)) (V (41 + V (119 + 12 * i + q)))) (59 + 10 * i + 6) (V (59 + 10 * i + 6))) 3 (V 3)) 4 (V 4 + 1), 0, up2 (up2 (up2 (up2 Mm1 1 (41 + V (119 + 12 * i + q)) (nI (V (41 + V (119 + 12 * i + q))))) 1 (59 + 10 * i + 6) (nI (V (59 + 10 * i + 6)))) 1 3 (nI (V 3))) 1 4 (nI (V 4 + 1)), by decide, ?_, fun k hk => by rw [u2_k hk, u2_k hk, u2_k hk, u2_k hk, t2 k hk], t3.up.up.up.up, cnt_WF W1 hc hi6 hx12 (by omega) (by omega) (by omega) (by omega), fun M0 hA => ?_⟩
    · simp (disch := first | omega | exact hB _) only [R_isMotion_t hR hB hi, n10, R_ranked hR W (by omega : 13 ≤ n) hi6 (by decide : 0 < 65536), hrk, hq, Nat.zero_le, R_listed, hR, R_isOn hR hB hx12, h3, t1, t3, o, u2_j, u2_s, R_of, Nat.add_zero, Nat.sub_zero, ob_s, ob2_s, chk_t, lt_s', litI, n_add, n_mul, n_sub, inb_n, ix_n, n_le, n_lt, n_eq, n_bit, n_m1_lt, n_m1_eq, n_m1_m, n_ne_m, n_m_ne, n_m_lt0, n_0_le_m, if_true, if_false, eq_self, not_true_eq_false, not_false_eq_true, isB_0, isB_1, Bool.false_eq_true, true_and, and_true, false_and, and_false, and_self, Nat.one_ne_zero, Nat.zero_ne_one, reduceIte]
    · obtain ⟨M', g0, g1, g2, g3, g4⟩ := C_clear (n := n) (hA.mo i hi6) W hn hi6 hq
      have hA1 : AR M' a (remV V i q) := hA.mot W hi6 (fun k hk => g1 k (by omega) (by omega)) (fun j hj => o j (by unfold inM at hj; omega) (by unfold inM at hj; omega)) (rem_MR (hA.mo i hi6) W hi6 hq g1 g2 g3 g4)
      obtain ⟨q', hq0', hq', hrk'⟩ := C_firstPlace (n := n) hA W (by omega) hi6 (by omega)
      have : q' = q := by rw [← hrk', hrk]
      subst this
      have hxs : V (119 + 12 * i + q') < remV V i q' 0 := by rw [o 0 (by omega) (by omega)]; exact hx
      have hsit := C_sits (n := n) hA1 W1.b W1.F hxs
      have hxb := hB (119 + 12 * i + q')
      refine ⟨up2 M' a 11 (nI (V 4 + 1)), ?_, ?_, fun k hk => by rw [u2_k (by omega)]; exact g1 k (by omega) (by omega)⟩
      · unfold F_X2_callFirst
        simp (disch := first | omega | exact hB _) only [hq0', (hA.mo i hi6).le, g0, hsit, o, h3, hA1.mi, ob_s, ob2_s, chk_t, lt_s', litI, n_add, n_mul, n_sub, inb_n, ix_n, n_le, n_lt, n_eq, n_bit, n_m1_lt, n_m1_eq, n_m1_m, n_ne_m, n_m_ne, n_m_lt0, n_0_le_m, if_true, if_false, eq_self, not_true_eq_false, not_false_eq_true, isB_0, isB_1, Bool.false_eq_true, true_and, and_true, false_and, and_false, and_self, Nat.one_ne_zero, Nat.zero_ne_one, reduceIte]
      · refine cnt_AR W1 hA1 hi6 hx12 (fun k h1 h2 h3 => u2_k h1) ?_ u2_s (fun j h1 h2 => u2_j h2) ?_ (fun j h1 => by rw [u2_k (by omega)]) ?_ (fun j h1 => by rw [u2_k (by omega)])
        · rw [u2_j (by decide), hA1.sp, o 3 (by omega) (by omega)]
        · rw [u2_k (by omega), hA1.sk _ hx12, o _ (by omega) (by omega)]
        · rw [u2_k (by omega), (hA1.mo i hi6).so, o _ (by omega) (by omega)]
  · refine .inr ⟨rfl, sV (sV (sV (sV (remV V i q) (41 + V (119 + 12 * i + q)) (V (41 + V (119 + 12 * i + q)) + 1)) (59 + 10 * i + 6) (V (59 + 10 * i + 6) + 1)) 3 (V 3 + 1)) 4 (V 4), 1, up2 (up2 (up2 (up2 Mm1 1 (41 + V (119 + 12 * i + q)) (nI (V (41 + V (119 + 12 * i + q)) + 1))) 1 (59 + 10 * i + 6) (nI (V (59 + 10 * i + 6) + 1))) 1 3 (nI (V 3 + 1))) 1 4 (nI (V 4)), by decide, ?_, fun k hk => by rw [u2_k hk, u2_k hk, u2_k hk, u2_k hk, t2 k hk], t3.up.up.up.up, cnt_WF W1 hc hi6 hx12 (by omega) (by omega) (by omega) (by omega), fun M0 hA => ?_⟩
    · simp (disch := first | omega | exact hB _) only [R_isMotion_t hR hB hi, n10, R_ranked hR W (by omega : 13 ≤ n) hi6 (by decide : 0 < 65536), hrk, hq, Nat.zero_le, R_listed, hR, R_isOn hR hB hx12, h3, t1, t3, o, u2_j, u2_s, R_of, Nat.add_zero, Nat.sub_self, ob_s, ob2_s, chk_t, lt_s', litI, n_add, n_mul, n_sub, inb_n, ix_n, n_le, n_lt, n_eq, n_bit, n_m1_lt, n_m1_eq, n_m1_m, n_ne_m, n_m_ne, n_m_lt0, n_0_le_m, if_true, if_false, eq_self, not_true_eq_false, not_false_eq_true, isB_0, isB_1, Bool.false_eq_true, true_and, and_true, false_and, and_false, and_self, Nat.one_ne_zero, Nat.zero_ne_one, reduceIte]
    · obtain ⟨M', g0, g1, g2, g3, g4⟩ := C_clear (n := n) (hA.mo i hi6) W hn hi6 hq
      have hA1 : AR M' a (remV V i q) := hA.mot W hi6 (fun k hk => g1 k (by omega) (by omega)) (fun j hj => o j (by unfold inM at hj; omega) (by unfold inM at hj; omega)) (rem_MR (hA.mo i hi6) W hi6 hq g1 g2 g3 g4)
      obtain ⟨q', hq0', hq', hrk'⟩ := C_firstPlace (n := n) hA W (by omega) hi6 (by omega)
      have : q' = q := by rw [← hrk', hrk]
      subst this
      have hxs : V (119 + 12 * i + q') < remV V i q' 0 := by rw [o 0 (by omega) (by omega)]; exact hx
      have hsit := C_sits (n := n) hA1 W1.b W1.F hxs
      have hxb := hB (119 + 12 * i + q')
      refine ⟨up2 (up2 (up2 M' (a + 4) (V (119 + 12 * i + q')) (nI (V (41 + V (119 + 12 * i + q')) + 1))) (a + 6 + 1 + 4 * i) 11 (nI (V (59 + 10 * i + 6) + 1))) a 10 (nI (V 3 + 1)), ?_, ?_, fun k hk => by rw [u2_k (by omega), u2_k (by omega), u2_k (by omega)]; exact g1 k (by omega) (by omega)⟩
      · unfold F_X2_callFirst
        simp (disch := first | omega | exact hB _) only [hq0', (hA.mo i hi6).le, g0, hsit, o, h3, n10, hA1.sp, hA1.sk, (hA1.mo i hi6).so, u2_k, u2_j, ob_s, ob2_s, chk_t, lt_s', litI, n_add, n_mul, n_sub, inb_n, ix_n, n_le, n_lt, n_eq, n_bit, n_m1_lt, n_m1_eq, n_m1_m, n_ne_m, n_m_ne, n_m_lt0, n_0_le_m, if_true, if_false, eq_self, not_true_eq_false, not_false_eq_true, isB_0, isB_1, Bool.false_eq_true, true_and, and_true, false_and, and_false, and_self, Nat.one_ne_zero, Nat.zero_ne_one, reduceIte]
      · refine cnt_AR W1 hA1 hi6 hx12 (fun k h1 h2 h3 => ?_) u2_s ?_ (fun j h1 h2 => ?_) ?_ (fun j h1 => ?_) ?_ (fun j h1 => ?_)
        · rw [u2_k h1, u2_k h3, u2_k h2]
        · rw [u2_j (by decide), u2_k (by omega), u2_k (by omega), hA1.mi, o 4 (by omega) (by omega)]
        · rw [u2_j h1, u2_k (by omega), u2_k (by omega)]
        · rw [u2_k (by omega), u2_k (by omega), u2_s]
        · rw [u2_k (by omega), u2_k (by omega), u2_j h1]
        · rw [u2_k (by omega), u2_s]
        · rw [u2_k (by omega), u2_j h1, u2_k (by omega)]
/-! a field of a motion -/
theorem fld_AR4 (W : WF c V) (hA : AR M a V) {i v : Nat} (hi : i < 6) : AR (up2 M (a + 6 + 1 + 4 * i) 4 (nI v)) a (sV V (59 + 10 * i + 4) v) := by
  refine hA.mot W hi (fun k hk => u2_k (by omega)) (fun j hj => sV_n (by unfold inM at hj; omega)) ?_
  obtain ⟨a0, a2, a3, a4, a7, a9, a10, a11, b1, b2, b3⟩ := hA.mo i hi
  have hl := W.li hi
  have hcl := W.ci hi
  have hB := W.b
  have hF := W.F
  unfold MR
  simp (disch := first | omega | exact hB _) only [u2_k, u2_j, u2_s, sV_n, sV_s, ob_s, ob2_s, chk_t, lt_s', litI, n_add, n_mul, n_sub, inb_n, ix_n, n_le, n_lt, n_eq, n_bit, n_m1_lt, n_m1_eq, n_m1_m, n_ne_m, n_m_ne, n_m_lt0, n_0_le_m, if_true, if_false, eq_self, not_true_eq_false, not_false_eq_true, isB_0, isB_1, Bool.false_eq_true, true_and, and_true, false_and, and_false, and_self, Nat.one_ne_zero, Nat.zero_ne_one, reduceIte]
  have b2' : ∀ k, k < V (59 + 10 * i + 7) → M (a + 6 + 1 + 4 * i + 2) k = nI (V (191 + 36 * i + 3 * k)) ∧ M (a + 6 + 1 + 4 * i + 3) k = nI (stg (sV V (59 + 10 * i + 4) v) i k) := fun k hk => ⟨(b2 k hk).1, by
    have q := (W.cf hi hk).1
    unfold stg
    simp (disch := first | omega | exact hB _) only [sV_n, ob_s, ob2_s, chk_t, lt_s', litI, n_add, n_mul, n_sub, inb_n, ix_n, n_le, n_lt, n_eq, n_bit, n_m1_lt, n_m1_eq, n_m1_m, n_ne_m, n_m_ne, n_m_lt0, n_0_le_m, if_true, if_false, eq_self, not_true_eq_false, not_false_eq_true, isB_0, isB_1, Bool.false_eq_true, true_and, and_true, false_and, and_false, and_self, Nat.one_ne_zero, Nat.zero_ne_one, reduceIte]
    exact (b2 k hk).2⟩
  (repeat' refine And.intro ?_ ?_) <;> first | exact a0 | exact a2 | exact a3 | exact a4 | exact a7 | exact a9 | exact a10 | exact a11 | exact b1 | exact b2' | exact b3
theorem fld_WF4 (W : WF c V) {i v c' : Nat} (hi : i < 6) (hc : c ≤ c') (hv : v < 4096) : WF c' (sV V (59 + 10 * i + 4) v) := by
  refine W.mot hi hc (fun j hj => sV_n (by unfold inM at hj; omega)) (sV_lt W.b6 (by omega)) ?_
  obtain ⟨a0, a1, a2, a3, a4, a5, a6, a7, a8, a9, a10, a11⟩ := W.mo hi
  have hB := W.b
  unfold WM
  simp (disch := first | omega | exact hB _) only [sV_n, sV_s, ob_s, ob2_s, chk_t, lt_s', litI, n_add, n_mul, n_sub, inb_n, ix_n, n_le, n_lt, n_eq, n_bit, n_m1_lt, n_m1_eq, n_m1_m, n_ne_m, n_m_ne, n_m_lt0, n_0_le_m, if_true, if_false, eq_self, not_true_eq_false, not_false_eq_true, isB_0, isB_1, Bool.false_eq_true, true_and, and_true, false_and, and_false, and_self, Nat.one_ne_zero, Nat.zero_ne_one, reduceIte]
  (repeat' refine And.intro ?_ ?_) <;> first | exact a8 | exact a9 | exact a10 | exact a11 | omega
theorem fld_AR3 (W : WF c V) (hA : AR M a V) {i v : Nat} (hi : i < 6) : AR (up2 M (a + 6 + 1 + 4 * i) 3 (nI v)) a (sV V (59 + 10 * i + 1) v) := by
  refine hA.mot W hi (fun k hk => u2_k (by omega)) (fun j hj => sV_n (by unfold inM at hj; omega)) ?_
  obtain ⟨a0, a2, a3, a4, a7, a9, a10, a11, b1, b2, b3⟩ := hA.mo i hi
  have hl := W.li hi
  have hcl := W.ci hi
  have hB := W.b
  have hF := W.F
  unfold MR
  simp (disch := first | omega | exact hB _) only [u2_k, u2_j, u2_s, sV_n, sV_s, ob_s, ob2_s, chk_t, lt_s', litI, n_add, n_mul, n_sub, inb_n, ix_n, n_le, n_lt, n_eq, n_bit, n_m1_lt, n_m1_eq, n_m1_m, n_ne_m, n_m_ne, n_m_lt0, n_0_le_m, if_true, if_false, eq_self, not_true_eq_false, not_false_eq_true, isB_0, isB_1, Bool.false_eq_true, true_and, and_true, false_and, and_false, and_self, Nat.one_ne_zero, Nat.zero_ne_one, reduceIte]
  have b2' : ∀ k, k < V (59 + 10 * i + 7) → M (a + 6 + 1 + 4 * i + 2) k = nI (V (191 + 36 * i + 3 * k)) ∧ M (a + 6 + 1 + 4 * i + 3) k = nI (stg (sV V (59 + 10 * i + 1) v) i k) := fun k hk => ⟨(b2 k hk).1, by
    have q := (W.cf hi hk).1
    unfold stg
    simp (disch := first | omega | exact hB _) only [sV_n, ob_s, ob2_s, chk_t, lt_s', litI, n_add, n_mul, n_sub, inb_n, ix_n, n_le, n_lt, n_eq, n_bit, n_m1_lt, n_m1_eq, n_m1_m, n_ne_m, n_m_ne, n_m_lt0, n_0_le_m, if_true, if_false, eq_self, not_true_eq_false, not_false_eq_true, isB_0, isB_1, Bool.false_eq_true, true_and, and_true, false_and, and_false, and_self, Nat.one_ne_zero, Nat.zero_ne_one, reduceIte]
    exact (b2 k hk).2⟩
  (repeat' refine And.intro ?_ ?_) <;> first | exact a0 | exact a2 | exact a3 | exact a4 | exact a7 | exact a9 | exact a10 | exact a11 | exact b1 | exact b2' | exact b3
theorem fld_WF3 (W : WF c V) {i v c' : Nat} (hi : i < 6) (hc : c ≤ c') (hv : v < 2) : WF c' (sV V (59 + 10 * i + 1) v) := by
  refine W.mot hi hc (fun j hj => sV_n (by unfold inM at hj; omega)) (sV_lt W.b6 (by omega)) ?_
  obtain ⟨a0, a1, a2, a3, a4, a5, a6, a7, a8, a9, a10, a11⟩ := W.mo hi
  have hB := W.b
  unfold WM
  simp (disch := first | omega | exact hB _) only [sV_n, sV_s, ob_s, ob2_s, chk_t, lt_s', litI, n_add, n_mul, n_sub, inb_n, ix_n, n_le, n_lt, n_eq, n_bit, n_m1_lt, n_m1_eq, n_m1_m, n_ne_m, n_m_ne, n_m_lt0, n_0_le_m, if_true, if_false, eq_self, not_true_eq_false, not_false_eq_true, isB_0, isB_1, Bool.false_eq_true, true_and, and_true, false_and, and_false, and_self, Nat.one_ne_zero, Nat.zero_ne_one, reduceIte]
  (repeat' refine And.intro ?_ ?_) <;> first | exact a8 | exact a9 | exact a10 | exact a11 | omega
theorem fld_AR9 (W : WF c V) (hA : AR M a V) {i v : Nat} (hi : i < 6) : AR (up2 M (a + 6 + 1 + 4 * i) 9 (nI v)) a (sV V (59 + 10 * i + 2) v) := by
  refine hA.mot W hi (fun k hk => u2_k (by omega)) (fun j hj => sV_n (by unfold inM at hj; omega)) ?_
  obtain ⟨a0, a2, a3, a4, a7, a9, a10, a11, b1, b2, b3⟩ := hA.mo i hi
  have hl := W.li hi
  have hcl := W.ci hi
  have hB := W.b
  have hF := W.F
  unfold MR
  simp (disch := first | omega | exact hB _) only [u2_k, u2_j, u2_s, sV_n, sV_s, ob_s, ob2_s, chk_t, lt_s', litI, n_add, n_mul, n_sub, inb_n, ix_n, n_le, n_lt, n_eq, n_bit, n_m1_lt, n_m1_eq, n_m1_m, n_ne_m, n_m_ne, n_m_lt0, n_0_le_m, if_true, if_false, eq_self, not_true_eq_false, not_false_eq_true, isB_0, isB_1, Bool.false_eq_true, true_and, and_true, false_and, and_false, and_self, Nat.one_ne_zero, Nat.zero_ne_one, reduceIte]
  have b2' : ∀ k, k < V (59 + 10 * i + 7) → M (a + 6 + 1 + 4 * i + 2) k = nI (V (191 + 36 * i + 3 * k)) ∧ M (a + 6 + 1 + 4 * i + 3) k = nI (stg (sV V (59 + 10 * i + 2) v) i k) := fun k hk => ⟨(b2 k hk).1, by
    have q := (W.cf hi hk).1
    unfold stg
    simp (disch := first | omega | exact hB _) only [sV_n, ob_s, ob2_s, chk_t, lt_s', litI, n_add, n_mul, n_sub, inb_n, ix_n, n_le, n_lt, n_eq, n_bit, n_m1_lt, n_m1_eq, n_m1_m, n_ne_m, n_m_ne, n_m_lt0, n_0_le_m, if_true, if_false, eq_self, not_true_eq_false, not_false_eq_true, isB_0, isB_1, Bool.false_eq_true, true_and, and_true, false_and, and_false, and_self, Nat.one_ne_zero, Nat.zero_ne_one, reduceIte]
    exact (b2 k hk).2⟩
  (repeat' refine And.intro ?_ ?_) <;> first | exact a0 | exact a2 | exact a3 | exact a4 | exact a7 | exact a9 | exact a10 | exact a11 | exact b1 | exact b2' | exact b3
theorem fld_WF9 (W : WF c V) {i v c' : Nat} (hi : i < 6) (hc : c ≤ c') (hv : v < 2) : WF c' (sV V (59 + 10 * i + 2) v) := by
  refine W.mot hi hc (fun j hj => sV_n (by unfold inM at hj; omega)) (sV_lt W.b6 (by omega)) ?_
  obtain ⟨a0, a1, a2, a3, a4, a5, a6, a7, a8, a9, a10, a11⟩ := W.mo hi
  have hB := W.b
  unfold WM
  simp (disch := first | omega | exact hB _) only [sV_n, sV_s, ob_s, ob2_s, chk_t, lt_s', litI, n_add, n_mul, n_sub, inb_n, ix_n, n_le, n_lt, n_eq, n_bit, n_m1_lt, n_m1_eq, n_m1_m, n_ne_m, n_m_ne, n_m_lt0, n_0_le_m, if_true, if_false, eq_self, not_true_eq_false, not_false_eq_true, isB_0, isB_1, Bool.false_eq_true, true_and, and_true, false_and, and_false, and_self, Nat.one_ne_zero, Nat.zero_ne_one, reduceIte]
  (repeat' refine And.intro ?_ ?_) <;> first | exact a8 | exact a9 | exact a10 | exact a11 | omega
theorem fld_AR10 (W : WF c V) (hA : AR M a V) {i v : Nat} (hi : i < 6) : AR (up2 M (a + 6 + 1 + 4 * i) 10 (nI v)) a (sV V (59 + 10 * i + 3) v) := by
  refine hA.mot W hi (fun k hk => u2_k (by omega)) (fun j hj => sV_n (by unfold inM at hj; omega)) ?_
  obtain ⟨a0, a2, a3, a4, a7, a9, a10, a11, b1, b2, b3⟩ := hA.mo i hi
  have hl := W.li hi
  have hcl := W.ci hi
  have hB := W.b
  have hF := W.F
  unfold MR
  simp (disch := first | omega | exact hB _) only [u2_k, u2_j, u2_s, sV_n, sV_s, ob_s, ob2_s, chk_t, lt_s', litI, n_add, n_mul, n_sub, inb_n, ix_n, n_le, n_lt, n_eq, n_bit, n_m1_lt, n_m1_eq, n_m1_m, n_ne_m, n_m_ne, n_m_lt0, n_0_le_m, if_true, if_false, eq_self, not_true_eq_false, not_false_eq_true, isB_0, isB_1, Bool.false_eq_true, true_and, and_true, false_and, and_false, and_self, Nat.one_ne_zero, Nat.zero_ne_one, reduceIte]
  have b2' : ∀ k, k < V (59 + 10 * i + 7) → M (a + 6 + 1 + 4 * i + 2) k = nI (V (191 + 36 * i + 3 * k)) ∧ M (a + 6 + 1 + 4 * i + 3) k = nI (stg (sV V (59 + 10 * i + 3) v) i k) := fun k hk => ⟨(b2 k hk).1, by
    have q := (W.cf hi hk).1
    unfold stg
    simp (disch := first | omega | exact hB _) only [sV_n, ob_s, ob2_s, chk_t, lt_s', litI, n_add, n_mul, n_sub, inb_n, ix_n, n_le, n_lt, n_eq, n_bit, n_m1_lt, n_m1_eq, n_m1_m, n_ne_m, n_m_ne, n_m_lt0, n_0_le_m, if_true, if_false, eq_self, not_true_eq_false, not_false_eq_true, isB_0, isB_1, Bool.false_eq_true, true_and, and_true, false_and, and_false, and_self, Nat.one_ne_zero, Nat.zero_ne_one, reduceIte]
    exact (b2 k hk).2⟩
  (repeat' refine And.intro ?_ ?_) <;> first | exact a0 | exact a2 | exact a3 | exact a4 | exact a7 | exact a9 | exact a10 | exact a11 | exact b1 | exact b2' | exact b3
theorem fld_WF10 (W : WF c V) {i v c' : Nat} (hi : i < 6) (hc : c ≤ c') (hv : v < 2) : WF c' (sV V (59 + 10 * i + 3) v) := by
  refine W.mot hi hc (fun j hj => sV_n (by unfold inM at hj; omega)) (sV_lt W.b6 (by omega)) ?_
  obtain ⟨a0, a1, a2, a3, a4, a5, a6, a7, a8, a9, a10, a11⟩ := W.mo hi
  have hB := W.b
  unfold WM
  simp (disch := first | omega | exact hB _) only [sV_n, sV_s, ob_s, ob2_s, chk_t, lt_s', litI, n_add, n_mul, n_sub, inb_n, ix_n, n_le, n_lt, n_eq, n_bit, n_m1_lt, n_m1_eq, n_m1_m, n_ne_m, n_m_ne, n_m_lt0, n_0_le_m, if_true, if_false, eq_self, not_true_eq_false, not_false_eq_true, isB_0, isB_1, Bool.false_eq_true, true_and, and_true, false_and, and_false, and_self, Nat.one_ne_zero, Nat.zero_ne_one, reduceIte]
  (repeat' refine And.intro ?_ ?_) <;> first | exact a8 | exact a9 | exact a10 | exact a11 | omega
theorem s_support (hR : RR Mm V) (W : WF c V) (hn : 14 ≤ n) (hA : AR M a V) (x1 x2 : Int32) :
    StpR a c [2, 1, 0, 4] 2 V M Mm (F_X2_refusalToSupport n a x1 x2) (F_X2_support n a x1 x2) (F_X10_backs n x1 x2) := by
  have hB := W.b
  have hF := W.F
  have hP := W.M
  unfold StpR F_X2_refusalToSupport F_X10_backs
  rcases (Classical.em (isL x1 (V 2) ∧ isL x2 (V 0))).symm with h1 | ⟨⟨i, hi, rfl⟩, ⟨f, hf, rfl⟩⟩
  · obtain ⟨e, he, h2⟩ := C_pair_f (n := n) hA hB h1
    have h3 : F_X2_refusalWhileListOpen n a x1 x2 M = some e := by
      unfold F_X2_refusalWhileListOpen
      rw [he]
      rcases h2 with rfl | rfl <;> rfl
    refine .inl ⟨e, by omega, by omega, by rcases h2 with rfl | rfl <;> decide, ?_, ?_⟩
    · rw [h3]
      rcases h2 with rfl | rfl <;> rfl
    · simp (disch := first | omega | exact hB _) only [R_there_f hR hB h1, R_fail, ob_s, ob2_s, chk_t, lt_s', litI, n_add, n_mul, n_sub, inb_n, ix_n, n_le, n_lt, n_eq, n_bit, n_m1_lt, n_m1_eq, n_m1_m, n_ne_m, n_m_ne, n_m_lt0, n_0_le_m, if_true, if_false, eq_self, not_true_eq_false, not_false_eq_true, isB_0, isB_1, Bool.false_eq_true, true_and, and_true, false_and, and_false, and_self, Nat.one_ne_zero, Nat.zero_ne_one, reduceIte]
      rcases h2 with rfl | rfl <;> rfl
  have hi6 : i < 6 := by omega
  have hf12 : f < 12 := by omega
  have hC := C_listOpen (n := n) hA W hi hf
  rcases (Decidable.em (enT V i f = true)).symm with h1 | h1
  · refine .inl ⟨9, by decide, by decide, by decide, ?_, ?_⟩
    · rw [hC, if_neg h1]; rfl
    · simp (disch := first | omega | exact hB _) only [R_there_t hR hB hi hf, R_isFor hR W hi6 hf12, h1, n10, R_fail, ob_s, ob2_s, chk_t, lt_s', litI, n_add, n_mul, n_sub, inb_n, ix_n, n_le, n_lt, n_eq, n_bit, n_m1_lt, n_m1_eq, n_m1_m, n_ne_m, n_m_ne, n_m_lt0, n_0_le_m, if_true, if_false, eq_self, not_true_eq_false, not_false_eq_true, isB_0, isB_1, Bool.false_eq_true, true_and, and_true, false_and, and_false, and_self, Nat.one_ne_zero, Nat.zero_ne_one, reduceIte]
      rfl
  rw [if_pos h1] at hC
  obtain ⟨_, w1, w2, _, w4, w5, _, _, w8, w9, _, _⟩ := W.mo hi6
  rcases (Decidable.em (V (59 + 10 * i + 2) = 0)).symm with h2 | h2
  · have h2' : V (59 + 10 * i + 2) = 1 := by omega
    refine .inl ⟨14, by decide, by decide, by decide, ?_, ?_⟩
    · rw [hC, if_neg h2]; rfl
    · simp (disch := first | omega | exact hB _) only [R_there_t hR hB hi hf, R_isFor hR W hi6 hf12, h1, n10, R_isShut hR W hi6, h2', R_fail, ob_s, ob2_s, chk_t, lt_s', litI, n_add, n_mul, n_sub, inb_n, ix_n, n_le, n_lt, n_eq, n_bit, n_m1_lt, n_m1_eq, n_m1_m, n_ne_m, n_m_ne, n_m_lt0, n_0_le_m, if_true, if_false, eq_self, not_true_eq_false, not_false_eq_true, isB_0, isB_1, Bool.false_eq_true, true_and, and_true, false_and, and_false, and_self, Nat.one_ne_zero, Nat.zero_ne_one, reduceIte]
      rfl
  rw [if_pos h2] at hC
  rcases (Decidable.em (V (59 + 10 * i + 1) = 0)).symm with h3 | h3
  · have h3' : V (59 + 10 * i + 1) = 1 := by omega
    refine .inl ⟨15, by decide, by decide, by decide, ?_, ?_⟩
    · rw [hC, if_neg h3]; rfl
    · simp (disch := first | omega | exact hB _) only [R_there_t hR hB hi hf, R_isFor hR W hi6 hf12, h1, n10, R_isShut hR W hi6, h2, h3', R_fail, ob_s, ob2_s, chk_t, lt_s', litI, n_add, n_mul, n_sub, inb_n, ix_n, n_le, n_lt, n_eq, n_bit, n_m1_lt, n_m1_eq, n_m1_m, n_ne_m, n_m_ne, n_m_lt0, n_0_le_m, if_true, if_false, eq_self, not_true_eq_false, not_false_eq_true, isB_0, isB_1, Bool.false_eq_true, true_and, and_true, false_and, and_false, and_self, Nat.one_ne_zero, Nat.zero_ne_one, reduceIte]
      rfl
  rw [if_pos h3] at hC
  by_cases h4 : V (29 + f) = 0
  · refine .inl ⟨19, by decide, by decide, by decide, ?_, ?_⟩
    · simp (disch := first | omega | exact hB _) only [hC, ck23, C_sits hA hB hF hf, h4, ob_s, ob2_s, chk_t, lt_s', litI, n_add, n_mul, n_sub, inb_n, ix_n, n_le, n_lt, n_eq, n_bit, n_m1_lt, n_m1_eq, n_m1_m, n_ne_m, n_m_ne, n_m_lt0, n_0_le_m, if_true, if_false, eq_self, not_true_eq_false, not_false_eq_true, isB_0, isB_1, Bool.false_eq_true, true_and, and_true, false_and, and_false, and_self, Nat.one_ne_zero, Nat.zero_ne_one, reduceIte]
    · simp (disch := first | omega | exact hB _) only [R_there_t hR hB hi hf, R_isFor hR W hi6 hf12, h1, n10, R_isShut hR W hi6, h2, h3, R_isOn hR hB hf12, h4, R_fail, ob_s, ob2_s, chk_t, lt_s', litI, n_add, n_mul, n_sub, inb_n, ix_n, n_le, n_lt, n_eq, n_bit, n_m1_lt, n_m1_eq, n_m1_m, n_ne_m, n_m_ne, n_m_lt0, n_0_le_m, if_true, if_false, eq_self, not_true_eq_false, not_false_eq_true, isB_0, isB_1, Bool.false_eq_true, true_and, and_true, false_and, and_false, and_self, Nat.one_ne_zero, Nat.zero_ne_one, reduceIte]
      rfl
  have h7 : (2 : Nat) ^ f < 4096 := Nat.pow_lt_pow_right (a := 2) (n := 12) (by decide) hf12
  have hor := or_lt12 w4 hf12
  have W1 : WF c (sV V (59 + 10 * i + 4) (V (59 + 10 * i + 4) ||| 2 ^ f)) := fld_WF4 W hi6 (Nat.le_refl _) hor
  have hR1 : RR (up2 Mm 1 (59 + 10 * i + 4) (nI (V (59 + 10 * i + 4) ||| 2 ^ f))) (sV V (59 + 10 * i + 4) (V (59 + 10 * i + 4) ||| 2 ^ f)) := hR.up
  have b1 : backW (sV V (59 + 10 * i + 4) (V (59 + 10 * i + 4) ||| 2 ^ f)) i ≤ 12 * 9 := Nat.le_trans (sm_le (B := 9) (fun f hf => by
    have := (W1.fr (f := f) (by have := W1.F; omega)).2.1
    split <;> omega)) (by have := W1.F; omega)
  have b2 : entW (sV V (59 + 10 * i + 4) (V (59 + 10 * i + 4) ||| 2 ^ f)) i ≤ 12 * 9 := Nat.le_trans (sm_le (B := 9) (fun f hf => by
    have := (W1.fr (f := f) (by have := W1.F; omega)).2.1
    split <;> omega)) (by have := W1.F; omega)
  have key : ∀ M0, AR M0 a V → AR (up2 M0 (a + 6 + 1 + 4 * i) 4 (nI (V (59 + 10 * i + 4) ||| 2 ^ f))) a (sV V (59 + 10 * i + 4) (V (59 + 10 * i + 4) ||| 2 ^ f)) := fun M0 hA => fld_AR4 W hA hi6
  have e4 : sV V (59 + 10 * i + 4) (V (59 + 10 * i + 4) ||| 2 ^ f) (59 + 10 * i + 4) = V (59 + 10 * i + 4) ||| 2 ^ f := sV_s
  have hcw : ∀ M0, AR M0 a V → F_X2_weightOfSet n a (nI (V (59 + 10 * i + 4) ||| 2 ^ f)) (up2 M0 (a + 6 + 1 + 4 * i) 4 (nI (V (59 + 10 * i + 4) ||| 2 ^ f))) = some (nI (backW (sV V (59 + 10 * i + 4) (V (59 + 10 * i + 4) ||| 2 ^ f)) i)) := fun M0 hA => by
    rw [C_weightOfSet (key M0 hA) W1.b W1.F (by omega) hor]
    unfold backW
    rw [e4]
  have hs : F_X2_sits n a (nI f) M = some (nI 1) := by rw [C_sits hA hB hF hf, if_neg h4]
  by_cases h5 : 2 * backW (sV V (59 + 10 * i + 4) (V (59 + 10 * i + 4) ||| 2 ^ f)) i ≤ entW (sV V (59 + 10 * i + 4) (V (59 + 10 * i + 4) ||| 2 ^ f)) i
  · refine .inr ⟨?_, sV (sV V (59 + 10 * i + 4) (V (59 + 10 * i + 4) ||| 2 ^ f)) (59 + 10 * i + 1) 0, 0, up2 (up2 Mm 1 (59 + 10 * i + 4) (nI (V (59 + 10 * i + 4) ||| 2 ^ f))) 1 (59 + 10 * i + 1) (nI 0), by decide, ?_, fun k hk => by rw [u2_k hk, u2_k hk], hR1.up, fld_WF3 W1 hi6 (by omega) (by decide), fun M0 hA => ⟨_, ?_, fld_AR3 W1 (key M0 hA) hi6, fun k hk => by rw [u2_k (by omega), u2_k (by omega)]⟩⟩
    · simp (disch := first | omega | exact hB _) only [hC, ck23, hs, n10, ob_s, ob2_s, chk_t, lt_s', litI, n_add, n_mul, n_sub, inb_n, ix_n, n_le, n_lt, n_eq, n_bit, n_m1_lt, n_m1_eq, n_m1_m, n_ne_m, n_m_ne, n_m_lt0, n_0_le_m, if_true, if_false, eq_self, not_true_eq_false, not_false_eq_true, isB_0, isB_1, Bool.false_eq_true, true_and, and_true, false_and, and_false, and_self, Nat.one_ne_zero, Nat.zero_ne_one, reduceIte]
    · simp (disch := first | omega | exact hB _) only [R_there_t hR hB hi hf, R_isFor hR W hi6 hf12, h1, n10, R_isShut hR W hi6, h2, h3, R_isOn hR hB hf12, h4, R_of, hR, n_shl, n_or, R_backing hR1 W1 (by omega : 13 ≤ n) hi6, R_entitled hR1 W1 (by omega : 13 ≤ n) hi6, h5, u2_s, ob_s, ob2_s, chk_t, lt_s', litI, n_add, n_mul, n_sub, inb_n, ix_n, n_le, n_lt, n_eq, n_bit, n_m1_lt, n_m1_eq, n_m1_m, n_ne_m, n_m_ne, n_m_lt0, n_0_le_m, if_true, if_false, eq_self, not_true_eq_false, not_false_eq_true, isB_0, isB_1, Bool.false_eq_true, true_and, and_true, false_and, and_false, and_self, Nat.one_ne_zero, Nat.zero_ne_one, reduceIte]
    · unfold F_X2_support
      simp (disch := first | omega | exact hB _) only [(hA.mo i hi6).su, n_shl, n_or, u2_s, hcw M0 hA, C_entitledTo (key M0 hA) W1 (by omega : 13 ≤ n) hi6, C_entW (key M0 hA) W1 (by omega : 13 ≤ n) hi6, h5, ob_s, ob2_s, chk_t, lt_s', litI, n_add, n_mul, n_sub, inb_n, ix_n, n_le, n_lt, n_eq, n_bit, n_m1_lt, n_m1_eq, n_m1_m, n_ne_m, n_m_ne, n_m_lt0, n_0_le_m, if_true, if_false, eq_self, not_true_eq_false, not_false_eq_true, isB_0, isB_1, Bool.false_eq_true, true_and, and_true, false_and, and_false, and_self, Nat.one_ne_zero, Nat.zero_ne_one, reduceIte]
  · refine .inr ⟨?_, sV (sV V (59 + 10 * i + 4) (V (59 + 10 * i + 4) ||| 2 ^ f)) (59 + 10 * i + 1) 1, 1, up2 (up2 Mm 1 (59 + 10 * i + 4) (nI (V (59 + 10 * i + 4) ||| 2 ^ f))) 1 (59 + 10 * i + 1) (nI 1), by decide, ?_, fun k hk => by rw [u2_k hk, u2_k hk], hR1.up, fld_WF3 W1 hi6 (by omega) (by decide), fun M0 hA => ⟨_, ?_, fld_AR3 W1 (key M0 hA) hi6, fun k hk => by rw [u2_k (by omega), u2_k (by omega)]⟩⟩
    · simp (disch := first | omega | exact hB _) only [hC, ck23, hs, n10, ob_s, ob2_s, chk_t, lt_s', litI, n_add, n_mul, n_sub, inb_n, ix_n, n_le, n_lt, n_eq, n_bit, n_m1_lt, n_m1_eq, n_m1_m, n_ne_m, n_m_ne, n_m_lt0, n_0_le_m, if_true, if_false, eq_self, not_true_eq_false, not_false_eq_true, isB_0, isB_1, Bool.false_eq_true, true_and, and_true, false_and, and_false, and_self, Nat.one_ne_zero, Nat.zero_ne_one, reduceIte]
    · simp (disch := first | omega | exact hB _) only [R_there_t hR hB hi hf, R_isFor hR W hi6 hf12, h1, n10, R_isShut hR W hi6, h2, h3, R_isOn hR hB hf12, h4, R_of, hR, n_shl, n_or, R_backing hR1 W1 (by omega : 13 ≤ n) hi6, R_entitled hR1 W1 (by omega : 13 ≤ n) hi6, h5, u2_s, ob_s, ob2_s, chk_t, lt_s', litI, n_add, n_mul, n_sub, inb_n, ix_n, n_le, n_lt, n_eq, n_bit, n_m1_lt, n_m1_eq, n_m1_m, n_ne_m, n_m_ne, n_m_lt0, n_0_le_m, if_true, if_false, eq_self, not_true_eq_false, not_false_eq_true, isB_0, isB_1, Bool.false_eq_true, true_and, and_true, false_and, and_false, and_self, Nat.one_ne_zero, Nat.zero_ne_one, reduceIte]
    · unfold F_X2_support
      simp (disch := first | omega | exact hB _) only [(hA.mo i hi6).su, n_shl, n_or, u2_s, hcw M0 hA, C_entitledTo (key M0 hA) W1 (by omega : 13 ≤ n) hi6, C_entW (key M0 hA) W1 (by omega : 13 ≤ n) hi6, h5, ob_s, ob2_s, chk_t, lt_s', litI, n_add, n_mul, n_sub, inb_n, ix_n, n_le, n_lt, n_eq, n_bit, n_m1_lt, n_m1_eq, n_m1_m, n_ne_m, n_m_ne, n_m_lt0, n_0_le_m, if_true, if_false, eq_self, not_true_eq_false, not_false_eq_true, isB_0, isB_1, Bool.false_eq_true, true_and, and_true, false_and, and_false, and_self, Nat.one_ne_zero, Nat.zero_ne_one, reduceIte]
theorem C_settle0 (hA : AR M a V) (W : WF c V) (x1 : Int32) (h : ¬ isL x1 (V 2)) : F_X2_refusalToSettle n a x1 M = some 4 := by
  unfold F_X2_refusalToSettle
  rw [C_hasMotion_f hA W.b h]
  rfl
theorem C_settle1 (hA : AR M a V) (W : WF c V) {i : Nat} (hi : i < V 2) : F_X2_refusalToSettle n a (nI i) M = some (if V (59 + 10 * i + 2) = 0 then (if V (59 + 10 * i + 1) = 0 then 16 else (if V (59 + 10 * i + 5) = 0 then 0 else 17)) else 14) := by
  have hB := W.b
  have hM := W.M
  have hm := hA.mo i (by omega)
  unfold F_X2_refusalToSettle
  simp (disch := first | omega | exact hB _) only [C_hasMotion_t hA hB hi, n10, hm.ln, hm.de, hm.cl, Nat.le_zero, ob_s, ob2_s, chk_t, lt_s', litI, n_add, n_mul, n_sub, inb_n, ix_n, n_le, n_lt, n_eq, n_bit, n_m1_lt, n_m1_eq, n_m1_m, n_ne_m, n_m_ne, n_m_lt0, n_0_le_m, if_true, if_false, eq_self, not_true_eq_false, not_false_eq_true, isB_0, isB_1, Bool.false_eq_true, true_and, and_true, false_and, and_false, and_self, Nat.one_ne_zero, Nat.zero_ne_one, reduceIte]
  split <;> (try split) <;> (try split) <;> rfl
/-- due, alike -/
theorem due_iff (hA : AR M a V) (hR : RR Mm V) (W : WF c V) {i : Nat} (hi : i < V 2) : (∃ e, e ≠ 0 ∧ e < 23 ∧ kd e = 0 ∧ F_X2_refusalToSettle n a (nI i) M = some e ∧ F_X10_isDue n (nI i) Mm = some (nI 0)) ∨ (F_X2_refusalToSettle n a (nI i) M = some 0 ∧ F_X10_isDue n (nI i) Mm = some (nI 1)) := by
  have hM := W.M
  obtain ⟨_, w1, w2, _, _, _, _, _, _, _, _, _⟩ := W.mo (i := i) (by omega)
  rw [C_settle1 hA W hi, R_isDue hR W (by omega)]
  by_cases h1 : V (59 + 10 * i + 2) = 0
  · by_cases h2 : V (59 + 10 * i + 1) = 0
    · exact .inl ⟨16, by decide, by decide, by decide, by rw [if_pos h1, if_pos h2], by rw [if_pos h1, if_neg (by omega)]⟩
    · by_cases h3 : V (59 + 10 * i + 5) = 0
      · exact .inr ⟨by rw [if_pos h1, if_neg h2, if_pos h3], by rw [if_pos h1, if_pos (by omega), if_pos h3]⟩
      · exact .inl ⟨17, by decide, by decide, by decide, by rw [if_pos h1, if_neg h2, if_neg h3], by rw [if_pos h1, if_pos (by omega), if_neg h3]⟩
  · exact .inl ⟨14, by decide, by decide, by decide, by rw [if_neg h1], by rw [if_neg h1]⟩
theorem sumS_le (W : WF c V) {i s : Nat} (hi : i < 6) : sumS V i s ≤ 972 := by
  have hl := W.ci hi
  have q := sm_le (g := fun k => if V (191 + 36 * i + 3 * k + 2) = s then stg V i k else 0) (B := 81) (n := V (59 + 10 * i + 7)) (fun k hk => by
    have := stg_le W hi hk
    split <;> omega)
  unfold sumS
  omega
theorem s_decide (hR : RR Mm V) (W : WF c V) (hn : 14 ≤ n) (hA : AR M a V) (x1 : Int32) :
    StpR a c [2, 0] 2 V M Mm (F_X2_refusalToSettle n a x1) (F_X2_settle n a x1) (F_X10_decides n x1) := by
  have hB := W.b
  have hF := W.F
  have hP := W.M
  unfold StpR F_X10_decides
  rcases (Classical.em (isL x1 (V 2))).symm with h1 | ⟨i, hi, rfl⟩
  · refine .inl ⟨4, by decide, by decide, by decide, C_settle0 hA W x1 h1, ?_⟩
    simp (disch := first | omega | exact hB _) only [R_isMotion_f hR hB h1, R_fail, ob_s, ob2_s, chk_t, lt_s', litI, n_add, n_mul, n_sub, inb_n, ix_n, n_le, n_lt, n_eq, n_bit, n_m1_lt, n_m1_eq, n_m1_m, n_ne_m, n_m_ne, n_m_lt0, n_0_le_m, if_true, if_false, eq_self, not_true_eq_false, not_false_eq_true, isB_0, isB_1, Bool.false_eq_true, true_and, and_true, false_and, and_false, and_self, Nat.one_ne_zero, Nat.zero_ne_one, reduceIte]
    rfl
  have hi6 : i < 6 := by omega
  rcases due_iff (n := n) hA hR W hi with ⟨e, e1, e2, e3, e4, e5⟩ | ⟨e4, e5⟩
  · refine .inl ⟨e, e1, e2, by rw [e3]; decide, e4, ?_⟩
    rw [e3]
    simp (disch := first | omega | exact hB _) only [R_isMotion_t hR hB hi, n10, e5, R_fail, ob_s, ob2_s, chk_t, lt_s', litI, n_add, n_mul, n_sub, inb_n, ix_n, n_le, n_lt, n_eq, n_bit, n_m1_lt, n_m1_eq, n_m1_m, n_ne_m, n_m_ne, n_m_lt0, n_0_le_m, if_true, if_false, eq_self, not_true_eq_false, not_false_eq_true, isB_0, isB_1, Bool.false_eq_true, true_and, and_true, false_and, and_false, and_self, Nat.one_ne_zero, Nat.zero_ne_one, reduceIte]
    rfl
  have W1 : WF c (sV V (59 + 10 * i + 2) 1) := fld_WF9 W hi6 (Nat.le_refl _) (by decide)
  have hR1 : RR (up2 Mm 1 (59 + 10 * i + 2) (nI 1)) (sV V (59 + 10 * i + 2) 1) := hR.up
  have b1 := sumS_le W1 (s := 1) hi6
  have b2 := sumS_le W1 (s := 0) hi6
  have key : ∀ M0, AR M0 a V → AR (up2 M0 (a + 6 + 1 + 4 * i) 9 (nI 1)) a (sV V (59 + 10 * i + 2) 1) := fun M0 hA => fld_AR9 W hA hi6
  by_cases h5 : sumS (sV V (59 + 10 * i + 2) 1) i 1 ≤ sumS (sV V (59 + 10 * i + 2) 1) i 0
  · refine .inr ⟨e4, sV (sV V (59 + 10 * i + 2) 1) (59 + 10 * i + 3) 0, 0, up2 (up2 Mm 1 (59 + 10 * i + 2) (nI 1)) 1 (59 + 10 * i + 3) (nI 0), by decide, ?_, fun k hk => by rw [u2_k hk, u2_k hk], hR1.up, fld_WF10 W1 hi6 (by omega) (by decide), fun M0 hA => ⟨_, ?_, fld_AR10 W1 (key M0 hA) hi6, fun k hk => by rw [u2_k (by omega), u2_k (by omega)]⟩⟩
    · simp (disch := first | omega | exact hB _) only [R_isMotion_t hR hB hi, n10, e5, R_of, R_sum hR1 W1 (by omega : 13 ≤ n) hi6 (by decide : 1 < 65536), R_sum hR1 W1 (by omega : 13 ≤ n) hi6 (by decide : 0 < 65536), h5, u2_s, ob_s, ob2_s, chk_t, lt_s', litI, n_add, n_mul, n_sub, inb_n, ix_n, n_le, n_lt, n_eq, n_bit, n_m1_lt, n_m1_eq, n_m1_m, n_ne_m, n_m_ne, n_m_lt0, n_0_le_m, if_true, if_false, eq_self, not_true_eq_false, not_false_eq_true, isB_0, isB_1, Bool.false_eq_true, true_and, and_true, false_and, and_false, and_self, Nat.one_ne_zero, Nat.zero_ne_one, reduceIte]
    · unfold F_X2_settle
      simp (disch := first | omega | exact hB _) only [C_sumOfSide ((key M0 hA).mo i hi6) W1 (by omega : 13 ≤ n) hi6 (by decide : 1 < 65536), C_sumOfSide ((key M0 hA).mo i hi6) W1 (by omega : 13 ≤ n) hi6 (by decide : 0 < 65536), h5, u2_s, ob_s, ob2_s, chk_t, lt_s', litI, n_add, n_mul, n_sub, inb_n, ix_n, n_le, n_lt, n_eq, n_bit, n_m1_lt, n_m1_eq, n_m1_m, n_ne_m, n_m_ne, n_m_lt0, n_0_le_m, if_true, if_false, eq_self, not_true_eq_false, not_false_eq_true, isB_0, isB_1, Bool.false_eq_true, true_and, and_true, false_and, and_false, and_self, Nat.one_ne_zero, Nat.zero_ne_one, reduceIte]
  · refine .inr ⟨e4, sV (sV V (59 + 10 * i + 2) 1) (59 + 10 * i + 3) 1, 1, up2 (up2 Mm 1 (59 + 10 * i + 2) (nI 1)) 1 (59 + 10 * i + 3) (nI 1), by decide, ?_, fun k hk => by rw [u2_k hk, u2_k hk], hR1.up, fld_WF10 W1 hi6 (by omega) (by decide), fun M0 hA => ⟨_, ?_, fld_AR10 W1 (key M0 hA) hi6, fun k hk => by rw [u2_k (by omega), u2_k (by omega)]⟩⟩
    · simp (disch := first | omega | exact hB _) only [R_isMotion_t hR hB hi, n10, e5, R_of, R_sum hR1 W1 (by omega : 13 ≤ n) hi6 (by decide : 1 < 65536), R_sum hR1 W1 (by omega : 13 ≤ n) hi6 (by decide : 0 < 65536), h5, u2_s, ob_s, ob2_s, chk_t, lt_s', litI, n_add, n_mul, n_sub, inb_n, ix_n, n_le, n_lt, n_eq, n_bit, n_m1_lt, n_m1_eq, n_m1_m, n_ne_m, n_m_ne, n_m_lt0, n_0_le_m, if_true, if_false, eq_self, not_true_eq_false, not_false_eq_true, isB_0, isB_1, Bool.false_eq_true, true_and, and_true, false_and, and_false, and_self, Nat.one_ne_zero, Nat.zero_ne_one, reduceIte]
    · unfold F_X2_settle
      simp (disch := first | omega | exact hB _) only [C_sumOfSide ((key M0 hA).mo i hi6) W1 (by omega : 13 ≤ n) hi6 (by decide : 1 < 65536), C_sumOfSide ((key M0 hA).mo i hi6) W1 (by omega : 13 ≤ n) hi6 (by decide : 0 < 65536), h5, u2_s, ob_s, ob2_s, chk_t, lt_s', litI, n_add, n_mul, n_sub, inb_n, ix_n, n_le, n_lt, n_eq, n_bit, n_m1_lt, n_m1_eq, n_m1_m, n_ne_m, n_m_ne, n_m_lt0, n_0_le_m, if_true, if_false, eq_self, not_true_eq_false, not_false_eq_true, isB_0, isB_1, Bool.false_eq_true, true_and, and_true, false_and, and_false, and_self, Nat.one_ne_zero, Nat.zero_ne_one, reduceIte]
end CAL
