/-! ===== PURE: isConsistent ===== -/
section CONS
variable {n c : Nat} {T M Mm : Mem} {V : Nat → Nat}
theorem C_scan (hA : AR M 1 V) (W : WF c V) (hn : 14 ≤ n) {i : Nat} (hi : i < V 2) (h0 : V (59 + 10 * i + 5) ≠ 0) : ∃ q, F_X9_nextFrogByScan n (nI i) M = some (.inr (nI (V (119 + 12 * i + q)))) ∧ rkd V i 0 = q := by
  have hB := W.b
  have hM := W.M
  have hm : MR M (8 + 4 * i) V i := hA.mo i (by omega)
  obtain ⟨q, hq0, hq, hrk⟩ := C_firstPlace (n := n) hA W (by omega) (i := i) (by omega) (by omega)
  have hl := W.li (i := i) (by omega)
  refine ⟨q, ?_, hrk⟩
  unfold F_X9_nextFrogByScan
  rw [C_call1 hA W hi, if_neg h0]
  simp (disch := first | omega | exact hB _) only [refuse_0, obx_r, hq0, hm.le, ob_s, ob2_s, chk_t, lt_s', litI, n_add, n_mul, n_sub, inb_n, ix_n, n_le, n_lt, n_eq, n_bit, n_m1_lt, n_m1_eq, n_m1_m, n_ne_m, n_m_ne, n_m_lt0, n_0_le_m, if_true, if_false, eq_self, not_true_eq_false, not_false_eq_true, isB_0, isB_1, Bool.false_eq_true, true_and, and_true, false_and, and_false, and_self, Nat.one_ne_zero, Nat.zero_ne_one, reduceIte]
theorem C_lenI (hA : AR M 1 V) (W : WF c V) {i : Nat} (hi : i < V 2) : F_X9_listLength n (nI i) M = some (.inr (nI (V (59 + 10 * i + 5)))) := by
  have hB := W.b
  have hM := W.M
  have hm : MR M (8 + 4 * i) V i := hA.mo i (by omega)
  unfold F_X9_listLength
  simp (disch := first | omega | exact hB _) only [reqMotion_t hA hB hi, obx_r, hm.ln, ob_s, ob2_s, chk_t, lt_s', litI, n_add, n_mul, n_sub, inb_n, ix_n, n_le, n_lt, n_eq, n_bit, n_m1_lt, n_m1_eq, n_m1_m, n_ne_m, n_m_ne, n_m_lt0, n_0_le_m, if_true, if_false, eq_self, not_true_eq_false, not_false_eq_true, isB_0, isB_1, Bool.false_eq_true, true_and, and_true, false_and, and_false, and_self, Nat.one_ne_zero, Nat.zero_ne_one, reduceIte]
theorem C_spOn (hA : AR M 1 V) (W : WF c V) {i : Nat} (hi : i < V 2) : F_X9_speechesOn n (nI i) M = some (.inr (nI (V (59 + 10 * i + 6)))) := by
  have hB := W.b
  have hM := W.M
  have hm : MR M (8 + 4 * i) V i := hA.mo i (by omega)
  unfold F_X9_speechesOn
  simp (disch := first | omega | exact hB _) only [reqMotion_t hA hB hi, obx_r, hm.so, ob_s, ob2_s, chk_t, lt_s', litI, n_add, n_mul, n_sub, inb_n, ix_n, n_le, n_lt, n_eq, n_bit, n_m1_lt, n_m1_eq, n_m1_m, n_ne_m, n_m_ne, n_m_lt0, n_0_le_m, if_true, if_false, eq_self, not_true_eq_false, not_false_eq_true, isB_0, isB_1, Bool.false_eq_true, true_and, and_true, false_and, and_false, and_self, Nat.one_ne_zero, Nat.zero_ne_one, reduceIte]
theorem sc_isConsistent (hn : 2900 ≤ n) : SC_isConsistent n Rel := by
  intro j T M Mm hj h
  obtain ⟨V, hR, W, hA⟩ := h.core
  have hB := W.b
  have hM := W.M
  have hR' : RR (up2 Mm 0 0 (nI 0)) V := hR.th
  have hsn := sitN_le W
  have hsum : ∀ f, f ≤ 6 → sm (fun i => V (59 + 10 * i + 6)) f ≤ f * 65536 := fun f hf => sm_le (fun i hi => Nat.le_of_lt (W.b6 _))
  have key : ∃ r, F_X9_isConsistent_L17 n n (nI 0) (nI 0) M = some r ∧ r.1 = .inr (if sm (fun i => V (59 + 10 * i + 6)) (V 2) = V 3 then nI 1 else nI 0) ∧ ∀ j, j ≠ 344 → j ≠ 345 → r.2 j = M j := by
    refine loopI (fun k f x => F_X9_isConsistent_L17 n k (nI (sm (fun i => V (59 + 10 * i + 6)) f)) (nI f) x) (fun f x => ∀ j, j ≠ 344 → j ≠ 345 → x j = M j) (fun r => r.1 = .inr (if sm (fun i => V (59 + 10 * i + 6)) (V 2) = V 3 then nI 1 else nI 0) ∧ ∀ j, j ≠ 344 → j ≠ 345 → r.2 j = M j) 0 (V 2) (fun k x hx => ?_) (fun k f x hs hf hx => ?_) n (by omega) (by omega) M (fun _ _ _ => rfl)
    · have hAx : AR x 1 V := hA.cong W (fun k a1 a2 => hx k (by omega) (by omega))
      have hb1 := hsum (V 2) hM
      refine ⟨(.inr (if sm (fun i => V (59 + 10 * i + 6)) (V 2) = V 3 then nI 1 else nI 0), x), ?_, rfl, hx⟩
      simp only [F_X9_isConsistent_L17, F_X9_speechTotal]
      simp (disch := first | omega | exact hB _) only [hAx.Mo, hAx.sp, Nat.le_refl, ob_s, ob2_s, chk_t, lt_s', litI, n_add, n_mul, n_sub, inb_n, ix_n, n_le, n_lt, n_eq, n_bit, n_m1_lt, n_m1_eq, n_m1_m, n_ne_m, n_m_ne, n_m_lt0, n_0_le_m, if_true, if_false, eq_self, not_true_eq_false, not_false_eq_true, isB_0, isB_1, Bool.false_eq_true, true_and, and_true, false_and, and_false, and_self, Nat.one_ne_zero, Nat.zero_ne_one, reduceIte]
      split <;> rfl
    · have hAx : AR x 1 V := hA.cong W (fun k a1 a2 => hx k (by omega) (by omega))
      have hle : ¬ V 2 ≤ f := by omega
      have hcf := C_croaksFor (n := n) hAx W (by omega) hf
      have hcp := C_byPonds (n := n) hAx W (by omega) hf
      have hln := C_lenI (n := n) hAx W hf
      have hso := C_spOn (n := n) hAx W hf
      by_cases h0 : V (59 + 10 * f + 5) = 0
      · refine ⟨x, hx, ?_⟩
        simp only [F_X9_isConsistent_L17]
        simp (disch := first | omega | exact hB _) only [hAx.Mo, hle, hln, obxr_r, h0, Nat.le_refl, hcf, hcp, hso, sm_s, ob_s, ob2_s, chk_t, lt_s', litI, n_add, n_mul, n_sub, inb_n, ix_n, n_le, n_lt, n_eq, n_bit, n_m1_lt, n_m1_eq, n_m1_m, n_ne_m, n_m_ne, n_m_lt0, n_0_le_m, if_true, if_false, eq_self, not_true_eq_false, not_false_eq_true, isB_0, isB_1, Bool.false_eq_true, true_and, and_true, false_and, and_false, and_self, Nat.one_ne_zero, Nat.zero_ne_one, reduceIte]
      · obtain ⟨q, x', q1, q2, q3, q4⟩ := C_nextFrog (n := n) hAx W (by omega) hf h0
        have hx' : ∀ j, j ≠ 344 → j ≠ 345 → x' j = M j := fun j a1 a2 => by rw [q4 j a1 a2, hx j a1 a2]
        have hAy : AR x' 1 V := hA.cong W (fun k a1 a2 => hx' k (by omega) (by omega))
        obtain ⟨q', s1, s2⟩ := C_scan (n := n) hAy W (by omega) hf h0
        have eq : q' = q := by rw [← s2, q3]
        subst eq
        have hcf := C_croaksFor (n := n) hAy W (by omega) hf
        have hcp := C_byPonds (n := n) hAy W (by omega) hf
        have hso := C_spOn (n := n) hAy W hf
        have hle0 : ¬ V (59 + 10 * f + 5) ≤ 0 := by omega
        refine ⟨x', hx', ?_⟩
        simp only [F_X9_isConsistent_L17]
        simp (disch := first | omega | exact hB _) only [hAx.Mo, hle, hln, obxr_r, hle0, q1, obx2_r, s1, hcf, hcp, hso, sm_s, ob_s, ob2_s, chk_t, lt_s', litI, n_add, n_mul, n_sub, inb_n, ix_n, n_le, n_lt, n_eq, n_bit, n_m1_lt, n_m1_eq, n_m1_m, n_ne_m, n_m_ne, n_m_lt0, n_0_le_m, if_true, if_false, eq_self, not_true_eq_false, not_false_eq_true, isB_0, isB_1, Bool.false_eq_true, true_and, and_true, false_and, and_false, and_self, Nat.one_ne_zero, Nat.zero_ne_one, reduceIte]
  obtain ⟨r, k1, k2, k3⟩ := key
  refine ⟨r.2, if sm (fun i => V (59 + 10 * i + 6)) (V 2) = V 3 then nI 1 else nI 0, up2 Mm 0 0 (nI 0), ?_, ?_, (h.thr hj).qu k3⟩
  · unfold F_X9_isConsistent
    simp (disch := first | omega | exact hB _) only [C_sitting hA W (by omega : 13 ≤ n), C_sittingB (n := n) hA W, ob_s, ob2_s, chk_t, lt_s', litI, n_add, n_mul, n_sub, inb_n, ix_n, n_le, n_lt, n_eq, n_bit, n_m1_lt, n_m1_eq, n_m1_m, n_ne_m, n_m_ne, n_m_lt0, n_0_le_m, if_true, if_false, eq_self, not_true_eq_false, not_false_eq_true, isB_0, isB_1, Bool.false_eq_true, true_and, and_true, false_and, and_false, and_self, Nat.one_ne_zero, Nat.zero_ne_one, reduceIte]
    rw [k1, ← k2]
  · unfold F_X10_isConsistent
    rw [lt_s', litN]
    refine loopS (fun k f => F_X10_isConsistent_L9 n k (nI (sm (fun i => V (59 + 10 * i + 6)) f)) (nI f) (up2 Mm 0 0 (nI 0))) (V 2) _ (fun k => ?_) (fun k f hf => ?_) n (by omega)
    · have hb1 := hsum (V 2) hM
      simp only [F_X10_isConsistent_L9]
      simp (disch := first | omega | exact hB _) only [hR', Nat.le_refl, ob_s, ob2_s, chk_t, lt_s', litI, n_add, n_mul, n_sub, inb_n, ix_n, n_le, n_lt, n_eq, n_bit, n_m1_lt, n_m1_eq, n_m1_m, n_ne_m, n_m_ne, n_m_lt0, n_0_le_m, if_true, if_false, eq_self, not_true_eq_false, not_false_eq_true, isB_0, isB_1, Bool.false_eq_true, true_and, and_true, false_and, and_false, and_self, Nat.one_ne_zero, Nat.zero_ne_one, reduceIte]
      split <;> rfl
    · have hle : ¬ V 2 ≤ f := by omega
      simp only [F_X10_isConsistent_L9]
      simp (disch := first | omega | exact hB _) only [hR', R_of, hle, sm_s, ob_s, ob2_s, chk_t, lt_s', litI, n_add, n_mul, n_sub, inb_n, ix_n, n_le, n_lt, n_eq, n_bit, n_m1_lt, n_m1_eq, n_m1_m, n_ne_m, n_m_ne, n_m_lt0, n_0_le_m, if_true, if_false, eq_self, not_true_eq_false, not_false_eq_true, isB_0, isB_1, Bool.false_eq_true, true_and, and_true, false_and, and_false, and_self, Nat.one_ne_zero, Nat.zero_ne_one, reduceIte]
end CONS
