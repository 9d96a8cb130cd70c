/-! ===== PURE: more questions ===== -/
theorem sm_swap (g : Nat → Nat → Nat) : ∀ (P F : Nat), sm (fun p => sm (fun f => g p f) F) P = sm (fun f => sm (fun p => g p f) P) F
  | 0, F => (sm_0 (n := F) (fun _ _ => rfl)).symm
  | P + 1, F => by
    rw [sm_s, sm_swap g P F]
    induction F with
    | zero => rfl
    | succ F ih => rw [sm_s, sm_s, sm_s, sm_s] at *; omega
theorem sm_one {v : Nat} : ∀ {P : Nat}, v ≤ P → sm (fun p => if v = p + 1 then 1 else 0) P = if v = 0 then 0 else 1
  | 0, h => by rw [if_pos (by omega)]; rfl
  | P + 1, h => by
    rw [sm_s]
    by_cases e : v = P + 1
    · rw [sm_0 (fun i hi => if_neg (by omega)), if_pos e, if_neg (by omega)]
    · rw [if_neg e, sm_one (P := P) (by omega)]
      split <;> rfl
section QUF
variable {n c : Nat} {T M Mm : Mem} {V : Nat → Nat}
theorem pads_sit (W : WF c V) : sm (fun p => onN V p) (V 1) = sitN V := by
  unfold onN sitN
  rw [sm_swap]
  exact sm_congr (fun f hf => sm_one (W.fr (f := f) (by have := W.F; omega)).2.2.1)
theorem sitN_le (W : WF c V) : sitN V ≤ 12 := by
  have q := sm_le (g := fun f => if V (29 + f) = 0 then 0 else 1) (B := 1) (n := V 0) (fun f hf => by split <;> omega)
  have := W.F
  unfold sitN
  omega
theorem C_sitting (hA : AR M 1 V) (W : WF c V) (hn : 13 ≤ n) : F_X9_sittingCount n M = some (nI (sitN V)) := by
  have hB := W.b
  have hF := W.F
  have hP := W.P
  rw [← pads_sit W]
  unfold F_X9_sittingCount
  refine loopS (fun k f => F_X9_sittingCount_L4 n M k (nI (sm (fun p => onN V p) f)) (nI f)) (V 1) _ (fun k => ?_) (fun k f hf => ?_) n (by omega)
  · simp only [F_X9_sittingCount_L4]
    simp (disch := first | omega | exact hB _) only [hA.P, Nat.le_refl, ob_s, ob2_s, chk_t, lt_s', litI, n_add, n_mul, n_sub, inb_n, ix_n, n_le, n_lt, n_eq, n_bit, n_m1_lt, n_m1_eq, n_m1_m, n_ne_m, n_m_ne, n_m_lt0, n_0_le_m, if_true, if_false, eq_self, not_true_eq_false, not_false_eq_true, isB_0, isB_1, Bool.false_eq_true, true_and, and_true, false_and, and_false, and_self, Nat.one_ne_zero, Nat.zero_ne_one, reduceIte]
  · have h : ¬ V 1 ≤ f := by omega
    simp only [F_X9_sittingCount_L4]
    simp (disch := first | omega | exact hB _) only [hA.P, h, C_countOn hA hB hF hn (by omega : f < 65536), sm_s, ob_s, ob2_s, chk_t, lt_s', litI, n_add, n_mul, n_sub, inb_n, ix_n, n_le, n_lt, n_eq, n_bit, n_m1_lt, n_m1_eq, n_m1_m, n_ne_m, n_m_ne, n_m_lt0, n_0_le_m, if_true, if_false, eq_self, not_true_eq_false, not_false_eq_true, isB_0, isB_1, Bool.false_eq_true, true_and, and_true, false_and, and_false, and_self, Nat.one_ne_zero, Nat.zero_ne_one, reduceIte]
theorem mask_sit (W : WF c V) {w : Nat} (hw : ∀ f, f < 12 → (w.testBit f = true ↔ V (29 + f) ≠ 0)) : bcN 12 w = sitN V := by
  have hF := W.F
  rw [bcN_sm]
  have e : sm (fun f => (w.testBit f).toNat) 12 = sm (fun f => if f < 12 then (if V (29 + f) = 0 then 0 else 1) else 0) 12 := sm_congr (fun f hf => by
    rw [if_pos hf]
    have q := hw f hf
    by_cases z : V (29 + f) = 0
    · rw [if_pos z]
      cases hb : w.testBit f with
      | false => rfl
      | true => exact absurd z (q.1 hb)
    · rw [if_neg z, q.2 z]; rfl)
  rw [e, show (12 : Nat) = V 0 + (12 - V 0) by omega, sm_ext (F := V 0) (fun f hf => by
    by_cases h2 : f < V 0 + (12 - V 0)
    · rw [if_pos h2, if_pos ((W.fr (f := f) (by omega)).2.2.2.1 hf)]
    · rw [if_neg h2])]
  exact sm_congr (fun f hf => if_pos (by omega))
theorem C_sittingB (hA : AR M 1 V) (W : WF c V) : F_X9_sittingCountBySet n M = some (nI (sitN V)) := by
  obtain ⟨w, h1, h2, h3⟩ := hA.ma
  unfold F_X9_sittingCountBySet
  rw [h2, C_bitCount h1, mask_sit W h3]
  rfl
theorem sc_sittingCount (hn : 2900 ≤ n) : SC_sittingCount n Rel := by
  intro j T M Mm hj h
  obtain ⟨V, hR, W, hA⟩ := h.core
  refine ⟨nI (sitN V), up2 Mm 0 0 (nI 0), C_sitting hA W (by omega), ?_, h.thr hj⟩
  unfold F_X10_sittingCount
  rw [lt_s', litN, R_sitting (hR.th (x := nI 0)) W.b W.F (by omega)]
  rfl
theorem sc_sittingCountBySet (hn : 2900 ≤ n) : SC_sittingCountBySet n Rel := by
  intro j T M Mm hj h
  obtain ⟨V, hR, W, hA⟩ := h.core
  refine ⟨nI (sitN V), up2 Mm 0 0 (nI 0), C_sittingB hA W, ?_, h.thr hj⟩
  unfold F_X10_sittingCountBySet
  rw [lt_s', litN, R_sitting (hR.th (x := nI 0)) W.b W.F (by omega)]
  rfl
theorem sc_isEntitled : SC_isEntitled n Rel := by
  intro j T M Mm x1 x2 hj h
  obtain ⟨V, hR, W, hA⟩ := h.core
  have hB := W.b
  have hF := W.F
  have hP := W.M
  rcases (Classical.em (isL x1 (V 2) ∧ isL x2 (V 0))).symm with h1 | ⟨⟨i, hi, rfl⟩, ⟨f, hf, rfl⟩⟩
  · obtain ⟨e, he, h2⟩ := C_pair_f (n := n) hA hB h1
    refine ⟨.inl 2, nI 0, up2 Mm 0 0 (nI 1), ?_, ?_, fun k hk => Sum.inl.inj hk ▸ rfl, ?_, no_r, h.thr hj⟩
    · unfold F_X9_isEntitled
      rw [he, ob_s]
      rcases h2 with rfl | rfl <;> rfl
    · unfold F_X10_isEntitled
      simp (disch := first | omega | exact hB _) only [R_there_f hR hB h1, u2_s, n10, ob_s, ob2_s, chk_t, lt_s', litI, n_add, n_mul, n_sub, inb_n, ix_n, n_le, n_lt, n_eq, n_bit, n_m1_lt, n_m1_eq, n_m1_m, n_ne_m, n_m_ne, n_m_lt0, n_0_le_m, if_true, if_false, eq_self, not_true_eq_false, not_false_eq_true, isB_0, isB_1, Bool.false_eq_true, true_and, and_true, false_and, and_false, and_self, Nat.one_ne_zero, Nat.zero_ne_one, reduceIte]
    · rw [u2_s]; rfl
  · refine ⟨.inr (if enT V i f = true then nI 1 else nI 0), if enT V i f = true then nI 1 else nI 0, up2 Mm 0 0 (nI 0), ?_, ?_, no_l, ?_, fun w hw => (Sum.inr.inj hw).symm, h.thr hj⟩
    · unfold F_X9_isEntitled
      simp (disch := first | omega | exact hB _) only [C_pair_t hA hB hi hf, refuse_0, obx_r, C_entitles hA W (by omega : i < 6) (by omega : f < 12), ob_s, ob2_s, chk_t, lt_s', litI, n_add, n_mul, n_sub, inb_n, ix_n, n_le, n_lt, n_eq, n_bit, n_m1_lt, n_m1_eq, n_m1_m, n_ne_m, n_m_ne, n_m_lt0, n_0_le_m, if_true, if_false, eq_self, not_true_eq_false, not_false_eq_true, isB_0, isB_1, Bool.false_eq_true, true_and, and_true, false_and, and_false, and_self, Nat.one_ne_zero, Nat.zero_ne_one, reduceIte]
      by_cases e : enT V i f = true
      · simp (disch := first | omega | exact hB _) only [e, ob_s, ob2_s, chk_t, lt_s', litI, n_add, n_mul, n_sub, inb_n, ix_n, n_le, n_lt, n_eq, n_bit, n_m1_lt, n_m1_eq, n_m1_m, n_ne_m, n_m_ne, n_m_lt0, n_0_le_m, if_true, if_false, eq_self, not_true_eq_false, not_false_eq_true, isB_0, isB_1, Bool.false_eq_true, true_and, and_true, false_and, and_false, and_self, Nat.one_ne_zero, Nat.zero_ne_one, reduceIte]
      · simp (disch := first | omega | exact hB _) only [e, ob_s, ob2_s, chk_t, lt_s', litI, n_add, n_mul, n_sub, inb_n, ix_n, n_le, n_lt, n_eq, n_bit, n_m1_lt, n_m1_eq, n_m1_m, n_ne_m, n_m_ne, n_m_lt0, n_0_le_m, if_true, if_false, eq_self, not_true_eq_false, not_false_eq_true, isB_0, isB_1, Bool.false_eq_true, true_and, and_true, false_and, and_false, and_self, Nat.one_ne_zero, Nat.zero_ne_one, reduceIte]
    · unfold F_X10_isEntitled
      simp (disch := first | omega | exact hB _) only [R_there_t hR hB hi hf, u2_s, n10, R_isFor (n := n) (hR.th (x := nI 0)) W (by omega : i < 6) (by omega : f < 12), ob_s, ob2_s, chk_t, lt_s', litI, n_add, n_mul, n_sub, inb_n, ix_n, n_le, n_lt, n_eq, n_bit, n_m1_lt, n_m1_eq, n_m1_m, n_ne_m, n_m_ne, n_m_lt0, n_0_le_m, if_true, if_false, eq_self, not_true_eq_false, not_false_eq_true, isB_0, isB_1, Bool.false_eq_true, true_and, and_true, false_and, and_false, and_self, Nat.one_ne_zero, Nat.zero_ne_one, reduceIte]
      by_cases e : enT V i f = true
      · simp (disch := first | omega | exact hB _) only [e, n10, ob_s, ob2_s, chk_t, lt_s', litI, n_add, n_mul, n_sub, inb_n, ix_n, n_le, n_lt, n_eq, n_bit, n_m1_lt, n_m1_eq, n_m1_m, n_ne_m, n_m_ne, n_m_lt0, n_0_le_m, if_true, if_false, eq_self, not_true_eq_false, not_false_eq_true, isB_0, isB_1, Bool.false_eq_true, true_and, and_true, false_and, and_false, and_self, Nat.one_ne_zero, Nat.zero_ne_one, reduceIte]
      · simp (disch := first | omega | exact hB _) only [e, ob_s, ob2_s, chk_t, lt_s', litI, n_add, n_mul, n_sub, inb_n, ix_n, n_le, n_lt, n_eq, n_bit, n_m1_lt, n_m1_eq, n_m1_m, n_ne_m, n_m_ne, n_m_lt0, n_0_le_m, if_true, if_false, eq_self, not_true_eq_false, not_false_eq_true, isB_0, isB_1, Bool.false_eq_true, true_and, and_true, false_and, and_false, and_self, Nat.one_ne_zero, Nat.zero_ne_one, reduceIte]
    · rw [u2_s]; rfl
theorem sc_listLength : SC_listLength n Rel := by
  intro j T M Mm x1 hj h
  obtain ⟨V, hR, W, hA⟩ := h.core
  have hB := W.b
  have hM := W.M
  rcases (Classical.em (isL x1 (V 2))).symm with h1 | ⟨i, hi, rfl⟩
  · refine ⟨.inl 2, nI 0, up2 Mm 0 0 (nI 1), ?_, ?_, fun k hk => Sum.inl.inj hk ▸ rfl, ?_, no_r, h.thr hj⟩
    · unfold F_X9_listLength
      rw [reqMotion_f hA hB h1]
      rfl
    · unfold F_X10_listLength F_X10_tellsMotion
      simp (disch := first | omega | exact hB _) only [R_isMotion_f hR hB h1, u2_s, n10, ob_s, ob2_s, chk_t, lt_s', litI, n_add, n_mul, n_sub, inb_n, ix_n, n_le, n_lt, n_eq, n_bit, n_m1_lt, n_m1_eq, n_m1_m, n_ne_m, n_m_ne, n_m_lt0, n_0_le_m, if_true, if_false, eq_self, not_true_eq_false, not_false_eq_true, isB_0, isB_1, Bool.false_eq_true, true_and, and_true, false_and, and_false, and_self, Nat.one_ne_zero, Nat.zero_ne_one, reduceIte]
    · rw [u2_s]; rfl
  · have hm : MR M (8 + 4 * i) V i := hA.mo i (by omega)
    refine ⟨.inr (nI (V (59 + 10 * i + 5))), nI (V (59 + 10 * i + 5)), up2 Mm 0 0 (nI 0), ?_, ?_, no_l, ?_, fun w hw => (Sum.inr.inj hw).symm, h.thr hj⟩
    · unfold F_X9_listLength
      simp (disch := first | omega | exact hB _) only [reqMotion_t hA hB hi, obx_r, hm.ln, ob_s, ob2_s, chk_t, lt_s', litI, n_add, n_mul, n_sub, inb_n, ix_n, n_le, n_lt, n_eq, n_bit, n_m1_lt, n_m1_eq, n_m1_m, n_ne_m, n_m_ne, n_m_lt0, n_0_le_m, if_true, if_false, eq_self, not_true_eq_false, not_false_eq_true, isB_0, isB_1, Bool.false_eq_true, true_and, and_true, false_and, and_false, and_self, Nat.one_ne_zero, Nat.zero_ne_one, reduceIte]
    · unfold F_X10_listLength F_X10_tellsMotion
      simp (disch := first | omega | exact hB _) only [R_isMotion_t hR hB hi, u2_s, n10, u2_k, hR, R_of, ob_s, ob2_s, chk_t, lt_s', litI, n_add, n_mul, n_sub, inb_n, ix_n, n_le, n_lt, n_eq, n_bit, n_m1_lt, n_m1_eq, n_m1_m, n_ne_m, n_m_ne, n_m_lt0, n_0_le_m, if_true, if_false, eq_self, not_true_eq_false, not_false_eq_true, isB_0, isB_1, Bool.false_eq_true, true_and, and_true, false_and, and_false, and_self, Nat.one_ne_zero, Nat.zero_ne_one, reduceIte]
    · rw [u2_s]; rfl
theorem sc_speechesOn : SC_speechesOn n Rel := by
  intro j T M Mm x1 hj h
  obtain ⟨V, hR, W, hA⟩ := h.core
  have hB := W.b
  have hM := W.M
  rcases (Classical.em (isL x1 (V 2))).symm with h1 | ⟨i, hi, rfl⟩
  · refine ⟨.inl 2, nI 0, up2 Mm 0 0 (nI 1), ?_, ?_, fun k hk => Sum.inl.inj hk ▸ rfl, ?_, no_r, h.thr hj⟩
    · unfold F_X9_speechesOn
      rw [reqMotion_f hA hB h1]
      rfl
    · unfold F_X10_speechesOn F_X10_tellsMotion
      simp (disch := first | omega | exact hB _) only [R_isMotion_f hR hB h1, u2_s, n10, ob_s, ob2_s, chk_t, lt_s', litI, n_add, n_mul, n_sub, inb_n, ix_n, n_le, n_lt, n_eq, n_bit, n_m1_lt, n_m1_eq, n_m1_m, n_ne_m, n_m_ne, n_m_lt0, n_0_le_m, if_true, if_false, eq_self, not_true_eq_false, not_false_eq_true, isB_0, isB_1, Bool.false_eq_true, true_and, and_true, false_and, and_false, and_self, Nat.one_ne_zero, Nat.zero_ne_one, reduceIte]
    · rw [u2_s]; rfl
  · have hm : MR M (8 + 4 * i) V i := hA.mo i (by omega)
    refine ⟨.inr (nI (V (59 + 10 * i + 6))), nI (V (59 + 10 * i + 6)), up2 Mm 0 0 (nI 0), ?_, ?_, no_l, ?_, fun w hw => (Sum.inr.inj hw).symm, h.thr hj⟩
    · unfold F_X9_speechesOn
      simp (disch := first | omega | exact hB _) only [reqMotion_t hA hB hi, obx_r, hm.so, ob_s, ob2_s, chk_t, lt_s', litI, n_add, n_mul, n_sub, inb_n, ix_n, n_le, n_lt, n_eq, n_bit, n_m1_lt, n_m1_eq, n_m1_m, n_ne_m, n_m_ne, n_m_lt0, n_0_le_m, if_true, if_false, eq_self, not_true_eq_false, not_false_eq_true, isB_0, isB_1, Bool.false_eq_true, true_and, and_true, false_and, and_false, and_self, Nat.one_ne_zero, Nat.zero_ne_one, reduceIte]
    · unfold F_X10_speechesOn F_X10_tellsMotion
      simp (disch := first | omega | exact hB _) only [R_isMotion_t hR hB hi, u2_s, n10, u2_k, hR, R_of, ob_s, ob2_s, chk_t, lt_s', litI, n_add, n_mul, n_sub, inb_n, ix_n, n_le, n_lt, n_eq, n_bit, n_m1_lt, n_m1_eq, n_m1_m, n_ne_m, n_m_ne, n_m_lt0, n_0_le_m, if_true, if_false, eq_self, not_true_eq_false, not_false_eq_true, isB_0, isB_1, Bool.false_eq_true, true_and, and_true, false_and, and_false, and_self, Nat.one_ne_zero, Nat.zero_ne_one, reduceIte]
    · rw [u2_s]; rfl
theorem sc_isListClosed : SC_isListClosed n Rel := by
  intro j T M Mm x1 hj h
  obtain ⟨V, hR, W, hA⟩ := h.core
  have hB := W.b
  have hM := W.M
  rcases (Classical.em (isL x1 (V 2))).symm with h1 | ⟨i, hi, rfl⟩
  · refine ⟨.inl 2, nI 0, up2 Mm 0 0 (nI 1), ?_, ?_, fun k hk => Sum.inl.inj hk ▸ rfl, ?_, no_r, h.thr hj⟩
    · unfold F_X9_isListClosed
      rw [reqMotion_f hA hB h1]
      rfl
    · unfold F_X10_isListClosed F_X10_tellsMotion
      simp (disch := first | omega | exact hB _) only [R_isMotion_f hR hB h1, u2_s, n10, n01, ob_s, ob2_s, chk_t, lt_s', litI, n_add, n_mul, n_sub, inb_n, ix_n, n_le, n_lt, n_eq, n_bit, n_m1_lt, n_m1_eq, n_m1_m, n_ne_m, n_m_ne, n_m_lt0, n_0_le_m, if_true, if_false, eq_self, not_true_eq_false, not_false_eq_true, isB_0, isB_1, Bool.false_eq_true, true_and, and_true, false_and, and_false, and_self, Nat.one_ne_zero, Nat.zero_ne_one, reduceIte]
    · rw [u2_s]; rfl
  · have hm : MR M (8 + 4 * i) V i := hA.mo i (by omega)
    have hb : V (59 + 10 * i + 1) ≤ 1 := by
      obtain ⟨_, w1, w2, w3, _⟩ := W.mo (i := i) (by omega)
      assumption
    have ib := isB_le hb
    refine ⟨.inr (nI (V (59 + 10 * i + 1))), nI (V (59 + 10 * i + 1)), up2 Mm 0 0 (nI 0), ?_, ?_, no_l, ?_, fun w hw => (Sum.inr.inj hw).symm, h.thr hj⟩
    · unfold F_X9_isListClosed
      simp (disch := first | omega | exact hB _) only [reqMotion_t hA hB hi, obx_r, hm.cl, ib, ob_s, ob2_s, chk_t, lt_s', litI, n_add, n_mul, n_sub, inb_n, ix_n, n_le, n_lt, n_eq, n_bit, n_m1_lt, n_m1_eq, n_m1_m, n_ne_m, n_m_ne, n_m_lt0, n_0_le_m, if_true, if_false, eq_self, not_true_eq_false, not_false_eq_true, isB_0, isB_1, Bool.false_eq_true, true_and, and_true, false_and, and_false, and_self, Nat.one_ne_zero, Nat.zero_ne_one, reduceIte]
    · unfold F_X10_isListClosed F_X10_tellsMotion
      simp (disch := first | omega | exact hB _) only [R_isMotion_t hR hB hi, u2_s, n10, u2_k, hR, R_of, ob_s, ob2_s, chk_t, lt_s', litI, n_add, n_mul, n_sub, inb_n, ix_n, n_le, n_lt, n_eq, n_bit, n_m1_lt, n_m1_eq, n_m1_m, n_ne_m, n_m_ne, n_m_lt0, n_0_le_m, if_true, if_false, eq_self, not_true_eq_false, not_false_eq_true, isB_0, isB_1, Bool.false_eq_true, true_and, and_true, false_and, and_false, and_self, Nat.one_ne_zero, Nat.zero_ne_one, reduceIte]
      rcases (by omega : V (59 + 10 * i + 1) = 0 ∨ V (59 + 10 * i + 1) = 1) with q | q
      · simp (disch := first | omega | exact hB _) only [q, ob_s, ob2_s, chk_t, lt_s', litI, n_add, n_mul, n_sub, inb_n, ix_n, n_le, n_lt, n_eq, n_bit, n_m1_lt, n_m1_eq, n_m1_m, n_ne_m, n_m_ne, n_m_lt0, n_0_le_m, if_true, if_false, eq_self, not_true_eq_false, not_false_eq_true, isB_0, isB_1, Bool.false_eq_true, true_and, and_true, false_and, and_false, and_self, Nat.one_ne_zero, Nat.zero_ne_one, reduceIte]
      · simp (disch := first | omega | exact hB _) only [q, ob_s, ob2_s, chk_t, lt_s', litI, n_add, n_mul, n_sub, inb_n, ix_n, n_le, n_lt, n_eq, n_bit, n_m1_lt, n_m1_eq, n_m1_m, n_ne_m, n_m_ne, n_m_lt0, n_0_le_m, if_true, if_false, eq_self, not_true_eq_false, not_false_eq_true, isB_0, isB_1, Bool.false_eq_true, true_and, and_true, false_and, and_false, and_self, Nat.one_ne_zero, Nat.zero_ne_one, reduceIte]
    · rw [u2_s]; rfl
theorem sc_isDecided : SC_isDecided n Rel := by
  intro j T M Mm x1 hj h
  obtain ⟨V, hR, W, hA⟩ := h.core
  have hB := W.b
  have hM := W.M
  rcases (Classical.em (isL x1 (V 2))).symm with h1 | ⟨i, hi, rfl⟩
  · refine ⟨.inl 2, nI 0, up2 Mm 0 0 (nI 1), ?_, ?_, fun k hk => Sum.inl.inj hk ▸ rfl, ?_, no_r, h.thr hj⟩
    · unfold F_X9_isDecided
      rw [reqMotion_f hA hB h1]
      rfl
    · unfold F_X10_isDecided F_X10_tellsMotion
      simp (disch := first | omega | exact hB _) only [R_isMotion_f hR hB h1, u2_s, n10, n01, ob_s, ob2_s, chk_t, lt_s', litI, n_add, n_mul, n_sub, inb_n, ix_n, n_le, n_lt, n_eq, n_bit, n_m1_lt, n_m1_eq, n_m1_m, n_ne_m, n_m_ne, n_m_lt0, n_0_le_m, if_true, if_false, eq_self, not_true_eq_false, not_false_eq_true, isB_0, isB_1, Bool.false_eq_true, true_and, and_true, false_and, and_false, and_self, Nat.one_ne_zero, Nat.zero_ne_one, reduceIte]
    · rw [u2_s]; rfl
  · have hm : MR M (8 + 4 * i) V i := hA.mo i (by omega)
    have hb : V (59 + 10 * i + 2) ≤ 1 := by
      obtain ⟨_, w1, w2, w3, _⟩ := W.mo (i := i) (by omega)
      assumption
    have ib := isB_le hb
    refine ⟨.inr (nI (V (59 + 10 * i + 2))), nI (V (59 + 10 * i + 2)), up2 Mm 0 0 (nI 0), ?_, ?_, no_l, ?_, fun w hw => (Sum.inr.inj hw).symm, h.thr hj⟩
    · unfold F_X9_isDecided
      simp (disch := first | omega | exact hB _) only [reqMotion_t hA hB hi, obx_r, hm.de, ib, ob_s, ob2_s, chk_t, lt_s', litI, n_add, n_mul, n_sub, inb_n, ix_n, n_le, n_lt, n_eq, n_bit, n_m1_lt, n_m1_eq, n_m1_m, n_ne_m, n_m_ne, n_m_lt0, n_0_le_m, if_true, if_false, eq_self, not_true_eq_false, not_false_eq_true, isB_0, isB_1, Bool.false_eq_true, true_and, and_true, false_and, and_false, and_self, Nat.one_ne_zero, Nat.zero_ne_one, reduceIte]
    · unfold F_X10_isDecided F_X10_tellsMotion
      simp (disch := first | omega | exact hB _) only [R_isMotion_t hR hB hi, u2_s, n10, u2_k, hR, R_of, ob_s, ob2_s, chk_t, lt_s', litI, n_add, n_mul, n_sub, inb_n, ix_n, n_le, n_lt, n_eq, n_bit, n_m1_lt, n_m1_eq, n_m1_m, n_ne_m, n_m_ne, n_m_lt0, n_0_le_m, if_true, if_false, eq_self, not_true_eq_false, not_false_eq_true, isB_0, isB_1, Bool.false_eq_true, true_and, and_true, false_and, and_false, and_self, Nat.one_ne_zero, Nat.zero_ne_one, reduceIte]
      rcases (by omega : V (59 + 10 * i + 2) = 0 ∨ V (59 + 10 * i + 2) = 1) with q | q
      · simp (disch := first | omega | exact hB _) only [q, ob_s, ob2_s, chk_t, lt_s', litI, n_add, n_mul, n_sub, inb_n, ix_n, n_le, n_lt, n_eq, n_bit, n_m1_lt, n_m1_eq, n_m1_m, n_ne_m, n_m_ne, n_m_lt0, n_0_le_m, if_true, if_false, eq_self, not_true_eq_false, not_false_eq_true, isB_0, isB_1, Bool.false_eq_true, true_and, and_true, false_and, and_false, and_self, Nat.one_ne_zero, Nat.zero_ne_one, reduceIte]
      · simp (disch := first | omega | exact hB _) only [q, ob_s, ob2_s, chk_t, lt_s', litI, n_add, n_mul, n_sub, inb_n, ix_n, n_le, n_lt, n_eq, n_bit, n_m1_lt, n_m1_eq, n_m1_m, n_ne_m, n_m_ne, n_m_lt0, n_0_le_m, if_true, if_false, eq_self, not_true_eq_false, not_false_eq_true, isB_0, isB_1, Bool.false_eq_true, true_and, and_true, false_and, and_false, and_self, Nat.one_ne_zero, Nat.zero_ne_one, reduceIte]
    · rw [u2_s]; rfl
theorem sc_isAdopted : SC_isAdopted n Rel := by
  intro j T M Mm x1 hj h
  obtain ⟨V, hR, W, hA⟩ := h.core
  have hB := W.b
  have hM := W.M
  rcases (Classical.em (isL x1 (V 2))).symm with h1 | ⟨i, hi, rfl⟩
  · refine ⟨.inl 2, nI 0, up2 Mm 0 0 (nI 1), ?_, ?_, fun k hk => Sum.inl.inj hk ▸ rfl, ?_, no_r, h.thr hj⟩
    · unfold F_X9_isAdopted
      rw [reqMotion_f hA hB h1]
      rfl
    · unfold F_X10_isAdopted F_X10_tellsMotion
      simp (disch := first | omega | exact hB _) only [R_isMotion_f hR hB h1, u2_s, n10, n01, ob_s, ob2_s, chk_t, lt_s', litI, n_add, n_mul, n_sub, inb_n, ix_n, n_le, n_lt, n_eq, n_bit, n_m1_lt, n_m1_eq, n_m1_m, n_ne_m, n_m_ne, n_m_lt0, n_0_le_m, if_true, if_false, eq_self, not_true_eq_false, not_false_eq_true, isB_0, isB_1, Bool.false_eq_true, true_and, and_true, false_and, and_false, and_self, Nat.one_ne_zero, Nat.zero_ne_one, reduceIte]
    · rw [u2_s]; rfl
  · have hm : MR M (8 + 4 * i) V i := hA.mo i (by omega)
    have hb : V (59 + 10 * i + 3) ≤ 1 := by
      obtain ⟨_, w1, w2, w3, _⟩ := W.mo (i := i) (by omega)
      assumption
    have ib := isB_le hb
    refine ⟨.inr (nI (V (59 + 10 * i + 3))), nI (V (59 + 10 * i + 3)), up2 Mm 0 0 (nI 0), ?_, ?_, no_l, ?_, fun w hw => (Sum.inr.inj hw).symm, h.thr hj⟩
    · unfold F_X9_isAdopted
      simp (disch := first | omega | exact hB _) only [reqMotion_t hA hB hi, obx_r, hm.ad, ib, ob_s, ob2_s, chk_t, lt_s', litI, n_add, n_mul, n_sub, inb_n, ix_n, n_le, n_lt, n_eq, n_bit, n_m1_lt, n_m1_eq, n_m1_m, n_ne_m, n_m_ne, n_m_lt0, n_0_le_m, if_true, if_false, eq_self, not_true_eq_false, not_false_eq_true, isB_0, isB_1, Bool.false_eq_true, true_and, and_true, false_and, and_false, and_self, Nat.one_ne_zero, Nat.zero_ne_one, reduceIte]
    · unfold F_X10_isAdopted F_X10_tellsMotion
      simp (disch := first | omega | exact hB _) only [R_isMotion_t hR hB hi, u2_s, n10, u2_k, hR, R_of, ob_s, ob2_s, chk_t, lt_s', litI, n_add, n_mul, n_sub, inb_n, ix_n, n_le, n_lt, n_eq, n_bit, n_m1_lt, n_m1_eq, n_m1_m, n_ne_m, n_m_ne, n_m_lt0, n_0_le_m, if_true, if_false, eq_self, not_true_eq_false, not_false_eq_true, isB_0, isB_1, Bool.false_eq_true, true_and, and_true, false_and, and_false, and_self, Nat.one_ne_zero, Nat.zero_ne_one, reduceIte]
      rcases (by omega : V (59 + 10 * i + 3) = 0 ∨ V (59 + 10 * i + 3) = 1) with q | q
      · simp (disch := first | omega | exact hB _) only [q, ob_s, ob2_s, chk_t, lt_s', litI, n_add, n_mul, n_sub, inb_n, ix_n, n_le, n_lt, n_eq, n_bit, n_m1_lt, n_m1_eq, n_m1_m, n_ne_m, n_m_ne, n_m_lt0, n_0_le_m, if_true, if_false, eq_self, not_true_eq_false, not_false_eq_true, isB_0, isB_1, Bool.false_eq_true, true_and, and_true, false_and, and_false, and_self, Nat.one_ne_zero, Nat.zero_ne_one, reduceIte]
      · simp (disch := first | omega | exact hB _) only [q, ob_s, ob2_s, chk_t, lt_s', litI, n_add, n_mul, n_sub, inb_n, ix_n, n_le, n_lt, n_eq, n_bit, n_m1_lt, n_m1_eq, n_m1_m, n_ne_m, n_m_ne, n_m_lt0, n_0_le_m, if_true, if_false, eq_self, not_true_eq_false, not_false_eq_true, isB_0, isB_1, Bool.false_eq_true, true_and, and_true, false_and, and_false, and_self, Nat.one_ne_zero, Nat.zero_ne_one, reduceIte]
    · rw [u2_s]; rfl
theorem sc_croaksFor (hn : 2900 ≤ n) : SC_croaksFor n Rel := by
  intro j T M Mm x1 hj h
  obtain ⟨V, hR, W, hA⟩ := h.core
  have hB := W.b
  have hM := W.M
  rcases (Classical.em (isL x1 (V 2))).symm with h1 | ⟨i, hi, rfl⟩
  · refine ⟨.inl 2, nI 0, up2 Mm 0 0 (nI 1), ?_, ?_, fun k hk => Sum.inl.inj hk ▸ rfl, ?_, no_r, h.thr hj⟩
    · unfold F_X9_croaksFor
      rw [reqMotion_f hA hB h1]
      rfl
    · unfold F_X10_croaksFor F_X10_side
      simp (disch := first | omega | exact hB _) only [R_isMotion_f hR hB h1, u2_s, n10, ob_s, ob2_s, chk_t, lt_s', litI, n_add, n_mul, n_sub, inb_n, ix_n, n_le, n_lt, n_eq, n_bit, n_m1_lt, n_m1_eq, n_m1_m, n_ne_m, n_m_ne, n_m_lt0, n_0_le_m, if_true, if_false, eq_self, not_true_eq_false, not_false_eq_true, isB_0, isB_1, Bool.false_eq_true, true_and, and_true, false_and, and_false, and_self, Nat.one_ne_zero, Nat.zero_ne_one, reduceIte]
    · rw [u2_s]; rfl
  · have hm : MR M (8 + 4 * i) V i := hA.mo i (by omega)
    refine ⟨.inr (nI (sumS V i 1)), nI (sumS V i 1), up2 Mm 0 0 (nI 0), ?_, ?_, no_l, ?_, fun w hw => (Sum.inr.inj hw).symm, h.thr hj⟩
    · unfold F_X9_croaksFor
      simp (disch := first | omega | exact hB _) only [reqMotion_t hA hB hi, obx_r, C_sumOfSide hm W (by omega : 13 ≤ n) (by omega : i < 6) (by decide : 1 < 65536), ob_s, ob2_s, chk_t, lt_s', litI, n_add, n_mul, n_sub, inb_n, ix_n, n_le, n_lt, n_eq, n_bit, n_m1_lt, n_m1_eq, n_m1_m, n_ne_m, n_m_ne, n_m_lt0, n_0_le_m, if_true, if_false, eq_self, not_true_eq_false, not_false_eq_true, isB_0, isB_1, Bool.false_eq_true, true_and, and_true, false_and, and_false, and_self, Nat.one_ne_zero, Nat.zero_ne_one, reduceIte]
    · unfold F_X10_croaksFor F_X10_side
      simp (disch := first | omega | exact hB _) only [R_isMotion_t hR hB hi, u2_s, n10, R_sum (hR.th (x := nI 0)) W (by omega : 13 ≤ n) (by omega : i < 6) (by decide : 1 < 65536), ob_s, ob2_s, chk_t, lt_s', litI, n_add, n_mul, n_sub, inb_n, ix_n, n_le, n_lt, n_eq, n_bit, n_m1_lt, n_m1_eq, n_m1_m, n_ne_m, n_m_ne, n_m_lt0, n_0_le_m, if_true, if_false, eq_self, not_true_eq_false, not_false_eq_true, isB_0, isB_1, Bool.false_eq_true, true_and, and_true, false_and, and_false, and_self, Nat.one_ne_zero, Nat.zero_ne_one, reduceIte]
    · rw [u2_s]; rfl
theorem sc_croaksAgainst (hn : 2900 ≤ n) : SC_croaksAgainst n Rel := by
  intro j T M Mm x1 hj h
  obtain ⟨V, hR, W, hA⟩ := h.core
  have hB := W.b
  have hM := W.M
  rcases (Classical.em (isL x1 (V 2))).symm with h1 | ⟨i, hi, rfl⟩
  · refine ⟨.inl 2, nI 0, up2 Mm 0 0 (nI 1), ?_, ?_, fun k hk => Sum.inl.inj hk ▸ rfl, ?_, no_r, h.thr hj⟩
    · unfold F_X9_croaksAgainst
      rw [reqMotion_f hA hB h1]
      rfl
    · unfold F_X10_croaksAgainst F_X10_side
      simp (disch := first | omega | exact hB _) only [R_isMotion_f hR hB h1, u2_s, n10, ob_s, ob2_s, chk_t, lt_s', litI, n_add, n_mul, n_sub, inb_n, ix_n, n_le, n_lt, n_eq, n_bit, n_m1_lt, n_m1_eq, n_m1_m, n_ne_m, n_m_ne, n_m_lt0, n_0_le_m, if_true, if_false, eq_self, not_true_eq_false, not_false_eq_true, isB_0, isB_1, Bool.false_eq_true, true_and, and_true, false_and, and_false, and_self, Nat.one_ne_zero, Nat.zero_ne_one, reduceIte]
    · rw [u2_s]; rfl
  · have hm : MR M (8 + 4 * i) V i := hA.mo i (by omega)
    refine ⟨.inr (nI (sumS V i 0)), nI (sumS V i 0), up2 Mm 0 0 (nI 0), ?_, ?_, no_l, ?_, fun w hw => (Sum.inr.inj hw).symm, h.thr hj⟩
    · unfold F_X9_croaksAgainst
      simp (disch := first | omega | exact hB _) only [reqMotion_t hA hB hi, obx_r, C_sumOfSide hm W (by omega : 13 ≤ n) (by omega : i < 6) (by decide : 0 < 65536), ob_s, ob2_s, chk_t, lt_s', litI, n_add, n_mul, n_sub, inb_n, ix_n, n_le, n_lt, n_eq, n_bit, n_m1_lt, n_m1_eq, n_m1_m, n_ne_m, n_m_ne, n_m_lt0, n_0_le_m, if_true, if_false, eq_self, not_true_eq_false, not_false_eq_true, isB_0, isB_1, Bool.false_eq_true, true_and, and_true, false_and, and_false, and_self, Nat.one_ne_zero, Nat.zero_ne_one, reduceIte]
    · unfold F_X10_croaksAgainst F_X10_side
      simp (disch := first | omega | exact hB _) only [R_isMotion_t hR hB hi, u2_s, n10, R_sum (hR.th (x := nI 0)) W (by omega : 13 ≤ n) (by omega : i < 6) (by decide : 0 < 65536), ob_s, ob2_s, chk_t, lt_s', litI, n_add, n_mul, n_sub, inb_n, ix_n, n_le, n_lt, n_eq, n_bit, n_m1_lt, n_m1_eq, n_m1_m, n_ne_m, n_m_ne, n_m_lt0, n_0_le_m, if_true, if_false, eq_self, not_true_eq_false, not_false_eq_true, isB_0, isB_1, Bool.false_eq_true, true_and, and_true, false_and, and_false, and_self, Nat.one_ne_zero, Nat.zero_ne_one, reduceIte]
    · rw [u2_s]; rfl
theorem sc_closureWeight (hn : 2900 ≤ n) : SC_closureWeight n Rel := by
  intro j T M Mm x1 hj h
  obtain ⟨V, hR, W, hA⟩ := h.core
  have hB := W.b
  have hM := W.M
  rcases (Classical.em (isL x1 (V 2))).symm with h1 | ⟨i, hi, rfl⟩
  · refine ⟨.inl 2, nI 0, up2 Mm 0 0 (nI 1), ?_, ?_, fun k hk => Sum.inl.inj hk ▸ rfl, ?_, no_r, h.thr hj⟩
    · unfold F_X9_closureWeight
      rw [reqMotion_f hA hB h1]
      rfl
    · unfold F_X10_closureWeight
      simp (disch := first | omega | exact hB _) only [R_isMotion_f hR hB h1, u2_s, n10, ob_s, ob2_s, chk_t, lt_s', litI, n_add, n_mul, n_sub, inb_n, ix_n, n_le, n_lt, n_eq, n_bit, n_m1_lt, n_m1_eq, n_m1_m, n_ne_m, n_m_ne, n_m_lt0, n_0_le_m, if_true, if_false, eq_self, not_true_eq_false, not_false_eq_true, isB_0, isB_1, Bool.false_eq_true, true_and, and_true, false_and, and_false, and_self, Nat.one_ne_zero, Nat.zero_ne_one, reduceIte]
    · rw [u2_s]; rfl
  · have hm : MR M (8 + 4 * i) V i := hA.mo i (by omega)
    have hbk : F_X2_weightOfSet n 1 (nI (V (59 + 10 * i + 4))) M = some (nI (backW V i)) := C_weightOfSet hA hB W.F (by omega) (W.mo (i := i) (by omega)).2.2.2.2.1
    refine ⟨.inr (nI (backW V i)), nI (backW V i), up2 Mm 0 0 (nI 0), ?_, ?_, no_l, ?_, fun w hw => (Sum.inr.inj hw).symm, h.thr hj⟩
    · unfold F_X9_closureWeight
      simp (disch := first | omega | exact hB _) only [reqMotion_t hA hB hi, obx_r, hm.su, hbk, C_entitledTo hA W (by omega : 13 ≤ n) (by omega : i < 6), C_entW hA W (by omega : 13 ≤ n) (by omega : i < 6), ob_s, ob2_s, chk_t, lt_s', litI, n_add, n_mul, n_sub, inb_n, ix_n, n_le, n_lt, n_eq, n_bit, n_m1_lt, n_m1_eq, n_m1_m, n_ne_m, n_m_ne, n_m_lt0, n_0_le_m, if_true, if_false, eq_self, not_true_eq_false, not_false_eq_true, isB_0, isB_1, Bool.false_eq_true, true_and, and_true, false_and, and_false, and_self, Nat.one_ne_zero, Nat.zero_ne_one, reduceIte]
    · unfold F_X10_closureWeight
      simp (disch := first | omega | exact hB _) only [R_isMotion_t hR hB hi, u2_s, n10, R_backing (hR.th (x := nI 0)) W (by omega : 13 ≤ n) (by omega : i < 6), ob_s, ob2_s, chk_t, lt_s', litI, n_add, n_mul, n_sub, inb_n, ix_n, n_le, n_lt, n_eq, n_bit, n_m1_lt, n_m1_eq, n_m1_m, n_ne_m, n_m_ne, n_m_lt0, n_0_le_m, if_true, if_false, eq_self, not_true_eq_false, not_false_eq_true, isB_0, isB_1, Bool.false_eq_true, true_and, and_true, false_and, and_false, and_self, Nat.one_ne_zero, Nat.zero_ne_one, reduceIte]
    · rw [u2_s]; rfl
theorem sc_entitledWeight (hn : 2900 ≤ n) : SC_entitledWeight n Rel := by
  intro j T M Mm x1 hj h
  obtain ⟨V, hR, W, hA⟩ := h.core
  have hB := W.b
  have hM := W.M
  rcases (Classical.em (isL x1 (V 2))).symm with h1 | ⟨i, hi, rfl⟩
  · refine ⟨.inl 2, nI 0, up2 Mm 0 0 (nI 1), ?_, ?_, fun k hk => Sum.inl.inj hk ▸ rfl, ?_, no_r, h.thr hj⟩
    · unfold F_X9_entitledWeight
      rw [reqMotion_f hA hB h1]
      rfl
    · unfold F_X10_entitledWeight
      simp (disch := first | omega | exact hB _) only [R_isMotion_f hR hB h1, u2_s, n10, ob_s, ob2_s, chk_t, lt_s', litI, n_add, n_mul, n_sub, inb_n, ix_n, n_le, n_lt, n_eq, n_bit, n_m1_lt, n_m1_eq, n_m1_m, n_ne_m, n_m_ne, n_m_lt0, n_0_le_m, if_true, if_false, eq_self, not_true_eq_false, not_false_eq_true, isB_0, isB_1, Bool.false_eq_true, true_and, and_true, false_and, and_false, and_self, Nat.one_ne_zero, Nat.zero_ne_one, reduceIte]
    · rw [u2_s]; rfl
  · have hm : MR M (8 + 4 * i) V i := hA.mo i (by omega)
    have hbk : F_X2_weightOfSet n 1 (nI (V (59 + 10 * i + 4))) M = some (nI (backW V i)) := C_weightOfSet hA hB W.F (by omega) (W.mo (i := i) (by omega)).2.2.2.2.1
    refine ⟨.inr (nI (entW V i)), nI (entW V i), up2 Mm 0 0 (nI 0), ?_, ?_, no_l, ?_, fun w hw => (Sum.inr.inj hw).symm, h.thr hj⟩
    · unfold F_X9_entitledWeight
      simp (disch := first | omega | exact hB _) only [reqMotion_t hA hB hi, obx_r, hm.su, hbk, C_entitledTo hA W (by omega : 13 ≤ n) (by omega : i < 6), C_entW hA W (by omega : 13 ≤ n) (by omega : i < 6), ob_s, ob2_s, chk_t, lt_s', litI, n_add, n_mul, n_sub, inb_n, ix_n, n_le, n_lt, n_eq, n_bit, n_m1_lt, n_m1_eq, n_m1_m, n_ne_m, n_m_ne, n_m_lt0, n_0_le_m, if_true, if_false, eq_self, not_true_eq_false, not_false_eq_true, isB_0, isB_1, Bool.false_eq_true, true_and, and_true, false_and, and_false, and_self, Nat.one_ne_zero, Nat.zero_ne_one, reduceIte]
    · unfold F_X10_entitledWeight
      simp (disch := first | omega | exact hB _) only [R_isMotion_t hR hB hi, u2_s, n10, R_entitled (hR.th (x := nI 0)) W (by omega : 13 ≤ n) (by omega : i < 6), ob_s, ob2_s, chk_t, lt_s', litI, n_add, n_mul, n_sub, inb_n, ix_n, n_le, n_lt, n_eq, n_bit, n_m1_lt, n_m1_eq, n_m1_m, n_ne_m, n_m_ne, n_m_lt0, n_0_le_m, if_true, if_false, eq_self, not_true_eq_false, not_false_eq_true, isB_0, isB_1, Bool.false_eq_true, true_and, and_true, false_and, and_false, and_self, Nat.one_ne_zero, Nat.zero_ne_one, reduceIte]
    · rw [u2_s]; rfl
theorem sc_errorPosition : SC_errorPosition n Rel := by
  intro j T M Mm hj h
  have hE : ER (M 0 9) (Mm 0 2) := by
    obtain ⟨_, ⟨_, e1, e2, _⟩, _⟩ := h
    assumption
  obtain ⟨e, q | ⟨p, hp, q⟩⟩ := hE
  · have q2 : Mm 0 2 = -nI 1 := by rw [← e]; exact q
    refine ⟨.inl 5, nI 0, up2 Mm 0 0 (nI 1), ?_, ?_, fun k hk => Sum.inl.inj hk ▸ rfl, ?_, no_r, h.thr hj⟩
    · unfold F_X9_errorPosition
      rw [q]; rfl
    · have hB : ∀ k : Nat, 0 ≤ k := fun _ => Nat.zero_le _
      unfold F_X10_errorPosition
      simp (disch := first | omega | exact hB _) only [q2, u2_s, n10, ob_s, ob2_s, chk_t, lt_s', litI, n_add, n_mul, n_sub, inb_n, ix_n, n_le, n_lt, n_eq, n_bit, n_m1_lt, n_m1_eq, n_m1_m, n_ne_m, n_m_ne, n_m_lt0, n_0_le_m, if_true, if_false, eq_self, not_true_eq_false, not_false_eq_true, isB_0, isB_1, Bool.false_eq_true, true_and, and_true, false_and, and_false, and_self, Nat.one_ne_zero, Nat.zero_ne_one, reduceIte]
    · rw [u2_s]; rfl
  · have q2 : Mm 0 2 = nI p := by rw [← e]; exact q
    have hB : ∀ k : Nat, 0 ≤ k := fun _ => Nat.zero_le _
    refine ⟨.inr (nI p), nI p, up2 Mm 0 0 (nI 0), ?_, ?_, no_l, ?_, fun w hw => (Sum.inr.inj hw).symm, h.thr hj⟩
    · unfold F_X9_errorPosition
      simp (disch := first | omega | exact hB _) only [q, ob_s, ob2_s, chk_t, lt_s', litI, n_add, n_mul, n_sub, inb_n, ix_n, n_le, n_lt, n_eq, n_bit, n_m1_lt, n_m1_eq, n_m1_m, n_ne_m, n_m_ne, n_m_lt0, n_0_le_m, if_true, if_false, eq_self, not_true_eq_false, not_false_eq_true, isB_0, isB_1, Bool.false_eq_true, true_and, and_true, false_and, and_false, and_self, Nat.one_ne_zero, Nat.zero_ne_one, reduceIte]
    · unfold F_X10_errorPosition
      simp (disch := first | omega | exact hB _) only [q2, u2_s, u2_j, Nat.zero_le, ob_s, ob2_s, chk_t, lt_s', litI, n_add, n_mul, n_sub, inb_n, ix_n, n_le, n_lt, n_eq, n_bit, n_m1_lt, n_m1_eq, n_m1_m, n_ne_m, n_m_ne, n_m_lt0, n_0_le_m, if_true, if_false, eq_self, not_true_eq_false, not_false_eq_true, isB_0, isB_1, Bool.false_eq_true, true_and, and_true, false_and, and_false, and_self, Nat.one_ne_zero, Nat.zero_ne_one, reduceIte]
    · rw [u2_s]; rfl
theorem sc_failedCommand : SC_failedCommand n Rel := by
  intro j T M Mm hj h
  have hE : ER (M 0 10) (Mm 0 3) := by
    obtain ⟨_, ⟨_, e1, e2, _⟩, _⟩ := h
    assumption
  obtain ⟨e, q | ⟨p, hp, q⟩⟩ := hE
  · have q2 : Mm 0 3 = -nI 1 := by rw [← e]; exact q
    refine ⟨.inl 5, nI 0, up2 Mm 0 0 (nI 1), ?_, ?_, fun k hk => Sum.inl.inj hk ▸ rfl, ?_, no_r, h.thr hj⟩
    · unfold F_X9_failedCommand
      rw [q]; rfl
    · have hB : ∀ k : Nat, 0 ≤ k := fun _ => Nat.zero_le _
      unfold F_X10_failedCommand
      simp (disch := first | omega | exact hB _) only [q2, u2_s, n10, ob_s, ob2_s, chk_t, lt_s', litI, n_add, n_mul, n_sub, inb_n, ix_n, n_le, n_lt, n_eq, n_bit, n_m1_lt, n_m1_eq, n_m1_m, n_ne_m, n_m_ne, n_m_lt0, n_0_le_m, if_true, if_false, eq_self, not_true_eq_false, not_false_eq_true, isB_0, isB_1, Bool.false_eq_true, true_and, and_true, false_and, and_false, and_self, Nat.one_ne_zero, Nat.zero_ne_one, reduceIte]
    · rw [u2_s]; rfl
  · have q2 : Mm 0 3 = nI p := by rw [← e]; exact q
    have hB : ∀ k : Nat, 0 ≤ k := fun _ => Nat.zero_le _
    refine ⟨.inr (nI p), nI p, up2 Mm 0 0 (nI 0), ?_, ?_, no_l, ?_, fun w hw => (Sum.inr.inj hw).symm, h.thr hj⟩
    · unfold F_X9_failedCommand
      simp (disch := first | omega | exact hB _) only [q, ob_s, ob2_s, chk_t, lt_s', litI, n_add, n_mul, n_sub, inb_n, ix_n, n_le, n_lt, n_eq, n_bit, n_m1_lt, n_m1_eq, n_m1_m, n_ne_m, n_m_ne, n_m_lt0, n_0_le_m, if_true, if_false, eq_self, not_true_eq_false, not_false_eq_true, isB_0, isB_1, Bool.false_eq_true, true_and, and_true, false_and, and_false, and_self, Nat.one_ne_zero, Nat.zero_ne_one, reduceIte]
    · unfold F_X10_failedCommand
      simp (disch := first | omega | exact hB _) only [q2, u2_s, u2_j, Nat.zero_le, ob_s, ob2_s, chk_t, lt_s', litI, n_add, n_mul, n_sub, inb_n, ix_n, n_le, n_lt, n_eq, n_bit, n_m1_lt, n_m1_eq, n_m1_m, n_ne_m, n_m_ne, n_m_lt0, n_0_le_m, if_true, if_false, eq_self, not_true_eq_false, not_false_eq_true, isB_0, isB_1, Bool.false_eq_true, true_and, and_true, false_and, and_false, and_self, Nat.one_ne_zero, Nat.zero_ne_one, reduceIte]
    · rw [u2_s]; rfl
theorem sc_adoptedCount (hn : 2900 ≤ n) : SC_adoptedCount n Rel := by
  intro j T M Mm hj h
  obtain ⟨V, hR, W, hA⟩ := h.core
  have hB := W.b
  have hM := W.M
  have hR' : RR (up2 Mm 0 0 (nI 0)) V := hR.th
  refine ⟨nI (sm (fun i => V (59 + 10 * i + 3)) (V 2)), up2 Mm 0 0 (nI 0), ?_, ?_, h.thr hj⟩
  · unfold F_X9_adoptedCount
    refine loopS (fun k f => F_X9_adoptedCount_L4 n M k (nI (sm (fun i => V (59 + 10 * i + 3)) f)) (nI f)) (V 2) _ (fun k => ?_) (fun k f hf => ?_) n (by omega)
    · simp only [F_X9_adoptedCount_L4]
      simp (disch := first | omega | exact hB _) only [hA.Mo, Nat.le_refl, ob_s, ob2_s, chk_t, lt_s', litI, n_add, n_mul, n_sub, inb_n, ix_n, n_le, n_lt, n_eq, n_bit, n_m1_lt, n_m1_eq, n_m1_m, n_ne_m, n_m_ne, n_m_lt0, n_0_le_m, if_true, if_false, eq_self, not_true_eq_false, not_false_eq_true, isB_0, isB_1, Bool.false_eq_true, true_and, and_true, false_and, and_false, and_self, Nat.one_ne_zero, Nat.zero_ne_one, reduceIte]
    · have h : ¬ V 2 ≤ f := by omega
      have hm : MR M (8 + 4 * f) V f := hA.mo f (by omega)
      have w3 := (W.mo (i := f) (by omega)).2.2.2.1
      simp only [F_X9_adoptedCount_L4]
      simp (disch := first | omega | exact hB _) only [hA.Mo, h, hm.ad, sm_s, ob_s, ob2_s, chk_t, lt_s', litI, n_add, n_mul, n_sub, inb_n, ix_n, n_le, n_lt, n_eq, n_bit, n_m1_lt, n_m1_eq, n_m1_m, n_ne_m, n_m_ne, n_m_lt0, n_0_le_m, if_true, if_false, eq_self, not_true_eq_false, not_false_eq_true, isB_0, isB_1, Bool.false_eq_true, true_and, and_true, false_and, and_false, and_self, Nat.one_ne_zero, Nat.zero_ne_one, reduceIte]
      rcases (by omega : V (59 + 10 * f + 3) = 0 ∨ V (59 + 10 * f + 3) = 1) with q | q
      · simp (disch := first | omega | exact hB _) only [q, Nat.add_zero, ob_s, ob2_s, chk_t, lt_s', litI, n_add, n_mul, n_sub, inb_n, ix_n, n_le, n_lt, n_eq, n_bit, n_m1_lt, n_m1_eq, n_m1_m, n_ne_m, n_m_ne, n_m_lt0, n_0_le_m, if_true, if_false, eq_self, not_true_eq_false, not_false_eq_true, isB_0, isB_1, Bool.false_eq_true, true_and, and_true, false_and, and_false, and_self, Nat.one_ne_zero, Nat.zero_ne_one, reduceIte]
      · simp (disch := first | omega | exact hB _) only [q, ob_s, ob2_s, chk_t, lt_s', litI, n_add, n_mul, n_sub, inb_n, ix_n, n_le, n_lt, n_eq, n_bit, n_m1_lt, n_m1_eq, n_m1_m, n_ne_m, n_m_ne, n_m_lt0, n_0_le_m, if_true, if_false, eq_self, not_true_eq_false, not_false_eq_true, isB_0, isB_1, Bool.false_eq_true, true_and, and_true, false_and, and_false, and_self, Nat.one_ne_zero, Nat.zero_ne_one, reduceIte]
  · unfold F_X10_adoptedCount
    rw [lt_s', litN]
    refine loopS (fun k f => F_X10_adoptedCount_L9 n k (nI (sm (fun i => V (59 + 10 * i + 3)) f)) (nI f) (up2 Mm 0 0 (nI 0))) (V 2) _ (fun k => ?_) (fun k f hf => ?_) n (by omega)
    · simp only [F_X10_adoptedCount_L9]
      simp (disch := first | omega | exact hB _) only [hR', Nat.le_refl, ob_s, ob2_s, chk_t, lt_s', litI, n_add, n_mul, n_sub, inb_n, ix_n, n_le, n_lt, n_eq, n_bit, n_m1_lt, n_m1_eq, n_m1_m, n_ne_m, n_m_ne, n_m_lt0, n_0_le_m, if_true, if_false, eq_self, not_true_eq_false, not_false_eq_true, isB_0, isB_1, Bool.false_eq_true, true_and, and_true, false_and, and_false, and_self, Nat.one_ne_zero, Nat.zero_ne_one, reduceIte]
    · have h : ¬ V 2 ≤ f := by omega
      simp only [F_X10_adoptedCount_L9]
      simp (disch := first | omega | exact hB _) only [hR', h, R_of, sm_s, ob_s, ob2_s, chk_t, lt_s', litI, n_add, n_mul, n_sub, inb_n, ix_n, n_le, n_lt, n_eq, n_bit, n_m1_lt, n_m1_eq, n_m1_m, n_ne_m, n_m_ne, n_m_lt0, n_0_le_m, if_true, if_false, eq_self, not_true_eq_false, not_false_eq_true, isB_0, isB_1, Bool.false_eq_true, true_and, and_true, false_and, and_false, and_self, Nat.one_ne_zero, Nat.zero_ne_one, reduceIte]
end QUF
