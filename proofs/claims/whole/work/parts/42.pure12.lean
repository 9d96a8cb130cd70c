/-! ===== PURE: the questions ===== -/
section QUE
variable {n c : Nat} {T M Mm : Mem} {V : Nat → Nat}
theorem Rel.thr {j : Nat} (h : Rel j T M Mm) (hj : j < 512) {x : Int32} : Rel (j + 1) T M (up2 Mm 0 0 x) := by
  obtain ⟨_, h1, V, h2, h3, h4, cnt, past, h5⟩ := h
  exact ⟨by omega, h1.fr (by omega) rfl (fun _ _ _ => rfl) rfl rfl (fun j h _ => by rw [u2_j (by omega)]) (u2_k (by decide)) (u2_k (by decide)) (u2_k (by decide)) (u2_k (by decide)) (u2_k (by decide)), V, h2.fr (u2_k (by decide)), h3.mono (by omega), h4, cnt, past, h5.fr (by omega) (fun _ _ _ => rfl) (u2_j (by decide)) (u2_k (by decide))⟩
theorem Rel.core {j : Nat} (h : Rel j T M Mm) : ∃ V, RR Mm V ∧ WF (64 * j) V ∧ AR M 1 V := by
  obtain ⟨_, _, V, h2, h3, h4, _⟩ := h
  exact ⟨V, h2, h3, h4⟩
theorem RR.th {x : Int32} (h : RR Mm V) : RR (up2 Mm 0 0 x) V := h.fr (u2_k (by decide))
theorem sc_frogCount : SC_frogCount n Rel := by
  intro j T M Mm hj h
  obtain ⟨V, hR, W, hA⟩ := h.core
  have hB := W.b
  refine ⟨nI (V 0), up2 Mm 0 0 (nI 0), ?_, ?_, h.thr hj⟩
  · unfold F_X9_frogCount
    rw [hA.F]
  · unfold F_X10_frogCount F_X10_tells
    simp (disch := first | omega | exact hB _) only [u2_k, hR, ob_s, ob2_s, chk_t, lt_s', litI, n_add, n_mul, n_sub, inb_n, ix_n, n_le, n_lt, n_eq, n_bit, n_m1_lt, n_m1_eq, n_m1_m, n_ne_m, n_m_ne, n_m_lt0, n_0_le_m, if_true, if_false, eq_self, not_true_eq_false, not_false_eq_true, isB_0, isB_1, Bool.false_eq_true, true_and, and_true, false_and, and_false, and_self, Nat.one_ne_zero, Nat.zero_ne_one, reduceIte]
theorem sc_padCount : SC_padCount n Rel := by
  intro j T M Mm hj h
  obtain ⟨V, hR, W, hA⟩ := h.core
  have hB := W.b
  refine ⟨nI (V 1), up2 Mm 0 0 (nI 0), ?_, ?_, h.thr hj⟩
  · unfold F_X9_padCount
    rw [hA.P]
  · unfold F_X10_padCount F_X10_tells
    simp (disch := first | omega | exact hB _) only [u2_k, hR, ob_s, ob2_s, chk_t, lt_s', litI, n_add, n_mul, n_sub, inb_n, ix_n, n_le, n_lt, n_eq, n_bit, n_m1_lt, n_m1_eq, n_m1_m, n_ne_m, n_m_ne, n_m_lt0, n_0_le_m, if_true, if_false, eq_self, not_true_eq_false, not_false_eq_true, isB_0, isB_1, Bool.false_eq_true, true_and, and_true, false_and, and_false, and_self, Nat.one_ne_zero, Nat.zero_ne_one, reduceIte]
theorem sc_motionCount : SC_motionCount n Rel := by
  intro j T M Mm hj h
  obtain ⟨V, hR, W, hA⟩ := h.core
  have hB := W.b
  refine ⟨nI (V 2), up2 Mm 0 0 (nI 0), ?_, ?_, h.thr hj⟩
  · unfold F_X9_motionCount
    rw [hA.Mo]
  · unfold F_X10_motionCount F_X10_tells
    simp (disch := first | omega | exact hB _) only [u2_k, hR, ob_s, ob2_s, chk_t, lt_s', litI, n_add, n_mul, n_sub, inb_n, ix_n, n_le, n_lt, n_eq, n_bit, n_m1_lt, n_m1_eq, n_m1_m, n_ne_m, n_m_ne, n_m_lt0, n_0_le_m, if_true, if_false, eq_self, not_true_eq_false, not_false_eq_true, isB_0, isB_1, Bool.false_eq_true, true_and, and_true, false_and, and_false, and_self, Nat.one_ne_zero, Nat.zero_ne_one, reduceIte]
theorem sc_speechTotal : SC_speechTotal n Rel := by
  intro j T M Mm hj h
  obtain ⟨V, hR, W, hA⟩ := h.core
  have hB := W.b
  refine ⟨nI (V 3), up2 Mm 0 0 (nI 0), ?_, ?_, h.thr hj⟩
  · unfold F_X9_speechTotal
    rw [hA.sp]
  · unfold F_X10_speechTotal F_X10_tells
    simp (disch := first | omega | exact hB _) only [u2_k, hR, ob_s, ob2_s, chk_t, lt_s', litI, n_add, n_mul, n_sub, inb_n, ix_n, n_le, n_lt, n_eq, n_bit, n_m1_lt, n_m1_eq, n_m1_m, n_ne_m, n_m_ne, n_m_lt0, n_0_le_m, if_true, if_false, eq_self, not_true_eq_false, not_false_eq_true, isB_0, isB_1, Bool.false_eq_true, true_and, and_true, false_and, and_false, and_self, Nat.one_ne_zero, Nat.zero_ne_one, reduceIte]
theorem sc_missedTotal : SC_missedTotal n Rel := by
  intro j T M Mm hj h
  obtain ⟨V, hR, W, hA⟩ := h.core
  have hB := W.b
  refine ⟨nI (V 4), up2 Mm 0 0 (nI 0), ?_, ?_, h.thr hj⟩
  · unfold F_X9_missedTotal
    rw [hA.mi]
  · unfold F_X10_missedTotal F_X10_tells
    simp (disch := first | omega | exact hB _) only [u2_k, hR, ob_s, ob2_s, chk_t, lt_s', litI, n_add, n_mul, n_sub, inb_n, ix_n, n_le, n_lt, n_eq, n_bit, n_m1_lt, n_m1_eq, n_m1_m, n_ne_m, n_m_ne, n_m_lt0, n_0_le_m, if_true, if_false, eq_self, not_true_eq_false, not_false_eq_true, isB_0, isB_1, Bool.false_eq_true, true_and, and_true, false_and, and_false, and_self, Nat.one_ne_zero, Nat.zero_ne_one, reduceIte]
theorem reqFrog_t (hA : AR M 1 V) (hB : ∀ k, V k < 2147483648) {f : Nat} (hf : f < V 0) : F_X9_requireFrog n (nI f) M = some (.inr ()) := by
  unfold F_X9_requireFrog
  rw [C_hasFrog_t hA hB hf]
  rfl
theorem reqFrog_f (hA : AR M 1 V) (hB : ∀ k, V k < 2147483648) {x : Int32} (h : ¬ isL x (V 0)) : F_X9_requireFrog n x M = some (.inl 2) := by
  unfold F_X9_requireFrog
  rw [C_hasFrog_f hA hB h]
  rfl
theorem reqPad_t (hA : AR M 1 V) (hB : ∀ k, V k < 2147483648) {f : Nat} (hf : f < V 1) : F_X9_requirePad n (nI f) M = some (.inr ()) := by
  unfold F_X9_requirePad
  rw [C_hasPad_t hA hB hf]
  rfl
theorem reqPad_f (hA : AR M 1 V) (hB : ∀ k, V k < 2147483648) {x : Int32} (h : ¬ isL x (V 1)) : F_X9_requirePad n x M = some (.inl 2) := by
  unfold F_X9_requirePad
  rw [C_hasPad_f hA hB h]
  rfl
theorem reqMotion_t (hA : AR M 1 V) (hB : ∀ k, V k < 2147483648) {f : Nat} (hf : f < V 2) : F_X9_requireMotion n (nI f) M = some (.inr ()) := by
  unfold F_X9_requireMotion
  rw [C_hasMotion_t hA hB hf]
  rfl
theorem reqMotion_f (hA : AR M 1 V) (hB : ∀ k, V k < 2147483648) {x : Int32} (h : ¬ isL x (V 2)) : F_X9_requireMotion n x M = some (.inl 2) := by
  unfold F_X9_requireMotion
  rw [C_hasMotion_f hA hB h]
  rfl
theorem sc_pondOf : SC_pondOf n Rel := by
  intro j T M Mm x1 hj h
  obtain ⟨V, hR, W, hA⟩ := h.core
  have hB := W.b
  have hF := W.F
  have po : ∀ f, f < 12 → M 2 f = nI (V (5 + f)) := hA.po
  rcases (Classical.em (isL x1 (V 0))).symm with h1 | ⟨f, hf, rfl⟩
  · refine ⟨.inl 2, nI 0, up2 Mm 0 0 (nI 1), ?_, ?_, fun k hk => Sum.inl.inj hk ▸ rfl, ?_, no_r, h.thr hj⟩
    · unfold F_X9_pondOf
      rw [reqFrog_f hA hB h1]
      rfl
    · unfold F_X10_pondOf F_X10_tellsFrog
      simp (disch := first | omega | exact hB _) only [R_isFrog_f hR hB h1, u2_s, n10, ob_s, ob2_s, chk_t, lt_s', litI, n_add, n_mul, n_sub, inb_n, ix_n, n_le, n_lt, n_eq, n_bit, n_m1_lt, n_m1_eq, n_m1_m, n_ne_m, n_m_ne, n_m_lt0, n_0_le_m, if_true, if_false, eq_self, not_true_eq_false, not_false_eq_true, isB_0, isB_1, Bool.false_eq_true, true_and, and_true, false_and, and_false, and_self, Nat.one_ne_zero, Nat.zero_ne_one, reduceIte]
    · rw [u2_s]; rfl
  · refine ⟨.inr (nI (V (5 + f))), nI (V (5 + f)), up2 Mm 0 0 (nI 0), ?_, ?_, no_l, ?_, fun w hw => (Sum.inr.inj hw).symm, h.thr hj⟩
    · unfold F_X9_pondOf
      simp (disch := first | omega | exact hB _) only [reqFrog_t hA hB hf, obx_r, po, ob_s, ob2_s, chk_t, lt_s', litI, n_add, n_mul, n_sub, inb_n, ix_n, n_le, n_lt, n_eq, n_bit, n_m1_lt, n_m1_eq, n_m1_m, n_ne_m, n_m_ne, n_m_lt0, n_0_le_m, if_true, if_false, eq_self, not_true_eq_false, not_false_eq_true, isB_0, isB_1, Bool.false_eq_true, true_and, and_true, false_and, and_false, and_self, Nat.one_ne_zero, Nat.zero_ne_one, reduceIte]
    · unfold F_X10_pondOf F_X10_tellsFrog
      simp (disch := first | omega | exact hB _) only [R_isFrog_t hR hB hf, u2_s, n10, u2_k, hR, ob_s, ob2_s, chk_t, lt_s', litI, n_add, n_mul, n_sub, inb_n, ix_n, n_le, n_lt, n_eq, n_bit, n_m1_lt, n_m1_eq, n_m1_m, n_ne_m, n_m_ne, n_m_lt0, n_0_le_m, if_true, if_false, eq_self, not_true_eq_false, not_false_eq_true, isB_0, isB_1, Bool.false_eq_true, true_and, and_true, false_and, and_false, and_self, Nat.one_ne_zero, Nat.zero_ne_one, reduceIte]
    · rw [u2_s]; rfl
theorem sc_weightOf : SC_weightOf n Rel := by
  intro j T M Mm x1 hj h
  obtain ⟨V, hR, W, hA⟩ := h.core
  have hB := W.b
  have hF := W.F
  have po : ∀ f, f < 12 → M 3 f = nI (V (17 + f)) := hA.we
  rcases (Classical.em (isL x1 (V 0))).symm with h1 | ⟨f, hf, rfl⟩
  · refine ⟨.inl 2, nI 0, up2 Mm 0 0 (nI 1), ?_, ?_, fun k hk => Sum.inl.inj hk ▸ rfl, ?_, no_r, h.thr hj⟩
    · unfold F_X9_weightOf
      rw [reqFrog_f hA hB h1]
      rfl
    · unfold F_X10_weightOf F_X10_tellsFrog
      simp (disch := first | omega | exact hB _) only [R_isFrog_f hR hB h1, u2_s, n10, ob_s, ob2_s, chk_t, lt_s', litI, n_add, n_mul, n_sub, inb_n, ix_n, n_le, n_lt, n_eq, n_bit, n_m1_lt, n_m1_eq, n_m1_m, n_ne_m, n_m_ne, n_m_lt0, n_0_le_m, if_true, if_false, eq_self, not_true_eq_false, not_false_eq_true, isB_0, isB_1, Bool.false_eq_true, true_and, and_true, false_and, and_false, and_self, Nat.one_ne_zero, Nat.zero_ne_one, reduceIte]
    · rw [u2_s]; rfl
  · refine ⟨.inr (nI (V (17 + f))), nI (V (17 + f)), up2 Mm 0 0 (nI 0), ?_, ?_, no_l, ?_, fun w hw => (Sum.inr.inj hw).symm, h.thr hj⟩
    · unfold F_X9_weightOf
      simp (disch := first | omega | exact hB _) only [reqFrog_t hA hB hf, obx_r, po, ob_s, ob2_s, chk_t, lt_s', litI, n_add, n_mul, n_sub, inb_n, ix_n, n_le, n_lt, n_eq, n_bit, n_m1_lt, n_m1_eq, n_m1_m, n_ne_m, n_m_ne, n_m_lt0, n_0_le_m, if_true, if_false, eq_self, not_true_eq_false, not_false_eq_true, isB_0, isB_1, Bool.false_eq_true, true_and, and_true, false_and, and_false, and_self, Nat.one_ne_zero, Nat.zero_ne_one, reduceIte]
    · unfold F_X10_weightOf F_X10_tellsFrog
      simp (disch := first | omega | exact hB _) only [R_isFrog_t hR hB hf, u2_s, n10, u2_k, hR, ob_s, ob2_s, chk_t, lt_s', litI, n_add, n_mul, n_sub, inb_n, ix_n, n_le, n_lt, n_eq, n_bit, n_m1_lt, n_m1_eq, n_m1_m, n_ne_m, n_m_ne, n_m_lt0, n_0_le_m, if_true, if_false, eq_self, not_true_eq_false, not_false_eq_true, isB_0, isB_1, Bool.false_eq_true, true_and, and_true, false_and, and_false, and_self, Nat.one_ne_zero, Nat.zero_ne_one, reduceIte]
    · rw [u2_s]; rfl
theorem sc_speeches : SC_speeches n Rel := by
  intro j T M Mm x1 hj h
  obtain ⟨V, hR, W, hA⟩ := h.core
  have hB := W.b
  have hF := W.F
  have po : ∀ f, f < 12 → M 5 f = nI (V (41 + f)) := hA.sk
  rcases (Classical.em (isL x1 (V 0))).symm with h1 | ⟨f, hf, rfl⟩
  · refine ⟨.inl 2, nI 0, up2 Mm 0 0 (nI 1), ?_, ?_, fun k hk => Sum.inl.inj hk ▸ rfl, ?_, no_r, h.thr hj⟩
    · unfold F_X9_speeches
      rw [reqFrog_f hA hB h1]
      rfl
    · unfold F_X10_speeches F_X10_tellsFrog
      simp (disch := first | omega | exact hB _) only [R_isFrog_f hR hB h1, u2_s, n10, ob_s, ob2_s, chk_t, lt_s', litI, n_add, n_mul, n_sub, inb_n, ix_n, n_le, n_lt, n_eq, n_bit, n_m1_lt, n_m1_eq, n_m1_m, n_ne_m, n_m_ne, n_m_lt0, n_0_le_m, if_true, if_false, eq_self, not_true_eq_false, not_false_eq_true, isB_0, isB_1, Bool.false_eq_true, true_and, and_true, false_and, and_false, and_self, Nat.one_ne_zero, Nat.zero_ne_one, reduceIte]
    · rw [u2_s]; rfl
  · refine ⟨.inr (nI (V (41 + f))), nI (V (41 + f)), up2 Mm 0 0 (nI 0), ?_, ?_, no_l, ?_, fun w hw => (Sum.inr.inj hw).symm, h.thr hj⟩
    · unfold F_X9_speeches
      simp (disch := first | omega | exact hB _) only [reqFrog_t hA hB hf, obx_r, po, ob_s, ob2_s, chk_t, lt_s', litI, n_add, n_mul, n_sub, inb_n, ix_n, n_le, n_lt, n_eq, n_bit, n_m1_lt, n_m1_eq, n_m1_m, n_ne_m, n_m_ne, n_m_lt0, n_0_le_m, if_true, if_false, eq_self, not_true_eq_false, not_false_eq_true, isB_0, isB_1, Bool.false_eq_true, true_and, and_true, false_and, and_false, and_self, Nat.one_ne_zero, Nat.zero_ne_one, reduceIte]
    · unfold F_X10_speeches F_X10_tellsFrog
      simp (disch := first | omega | exact hB _) only [R_isFrog_t hR hB hf, u2_s, n10, u2_k, hR, ob_s, ob2_s, chk_t, lt_s', litI, n_add, n_mul, n_sub, inb_n, ix_n, n_le, n_lt, n_eq, n_bit, n_m1_lt, n_m1_eq, n_m1_m, n_ne_m, n_m_ne, n_m_lt0, n_0_le_m, if_true, if_false, eq_self, not_true_eq_false, not_false_eq_true, isB_0, isB_1, Bool.false_eq_true, true_and, and_true, false_and, and_false, and_self, Nat.one_ne_zero, Nat.zero_ne_one, reduceIte]
    · rw [u2_s]; rfl
theorem sc_padOf : SC_padOf n Rel := by
  intro j T M Mm x1 hj h
  obtain ⟨V, hR, W, hA⟩ := h.core
  have hB := W.b
  have hF := W.F
  have se : ∀ f, f < V 0 → M 4 f = nI (V (29 + f)) - nI 1 := hA.se hF
  rcases (Classical.em (isL x1 (V 0))).symm with h1 | ⟨f, hf, rfl⟩
  · refine ⟨.inl 2, nI 0, up2 Mm 0 0 (nI 1), ?_, ?_, fun k hk => .inl (Sum.inl.inj hk).symm, ?_, no_r, h.thr hj⟩
    · unfold F_X9_padOf
      rw [reqFrog_f hA hB h1]
      rfl
    · unfold F_X10_padOf
      simp (disch := first | omega | exact hB _) only [R_isFrog_f hR hB h1, u2_s, n10, ob_s, ob2_s, chk_t, lt_s', litI, n_add, n_mul, n_sub, inb_n, ix_n, n_le, n_lt, n_eq, n_bit, n_m1_lt, n_m1_eq, n_m1_m, n_ne_m, n_m_ne, n_m_lt0, n_0_le_m, if_true, if_false, eq_self, not_true_eq_false, not_false_eq_true, isB_0, isB_1, Bool.false_eq_true, true_and, and_true, false_and, and_false, and_self, Nat.one_ne_zero, Nat.zero_ne_one, reduceIte]
    · rw [u2_s]; rfl
  by_cases h3 : V (29 + f) = 0
  · refine ⟨.inl 5, nI 0, up2 Mm 0 0 (nI 2), ?_, ?_, fun k hk => .inr (Sum.inl.inj hk).symm, ?_, no_r, h.thr hj⟩
    · unfold F_X9_padOf
      simp (disch := first | omega | exact hB _) only [reqFrog_t hA hB hf, obx_r, C_sits hA hB hF hf, h3, ob_s, ob2_s, chk_t, lt_s', litI, n_add, n_mul, n_sub, inb_n, ix_n, n_le, n_lt, n_eq, n_bit, n_m1_lt, n_m1_eq, n_m1_m, n_ne_m, n_m_ne, n_m_lt0, n_0_le_m, if_true, if_false, eq_self, not_true_eq_false, not_false_eq_true, isB_0, isB_1, Bool.false_eq_true, true_and, and_true, false_and, and_false, and_self, Nat.one_ne_zero, Nat.zero_ne_one, reduceIte]
    · unfold F_X10_padOf
      simp (disch := first | omega | exact hB _) only [R_isFrog_t hR hB hf, R_isOn hR hB (f := f) (by omega), h3, u2_s, n10, ob_s, ob2_s, chk_t, lt_s', litI, n_add, n_mul, n_sub, inb_n, ix_n, n_le, n_lt, n_eq, n_bit, n_m1_lt, n_m1_eq, n_m1_m, n_ne_m, n_m_ne, n_m_lt0, n_0_le_m, if_true, if_false, eq_self, not_true_eq_false, not_false_eq_true, isB_0, isB_1, Bool.false_eq_true, true_and, and_true, false_and, and_false, and_self, Nat.one_ne_zero, Nat.zero_ne_one, reduceIte]
      rfl
    · rw [u2_s]; rfl
  · refine ⟨.inr (nI (V (29 + f) - 1)), nI (V (29 + f) - 1), up2 Mm 0 0 (nI 0), ?_, ?_, no_l, ?_, fun w hw => (Sum.inr.inj hw).symm, h.thr hj⟩
    · unfold F_X9_padOf
      simp (disch := first | omega | exact hB _) only [reqFrog_t hA hB hf, obx_r, C_sits hA hB hF hf, h3, n10, se, ob_s, ob2_s, chk_t, lt_s', litI, n_add, n_mul, n_sub, inb_n, ix_n, n_le, n_lt, n_eq, n_bit, n_m1_lt, n_m1_eq, n_m1_m, n_ne_m, n_m_ne, n_m_lt0, n_0_le_m, if_true, if_false, eq_self, not_true_eq_false, not_false_eq_true, isB_0, isB_1, Bool.false_eq_true, true_and, and_true, false_and, and_false, and_self, Nat.one_ne_zero, Nat.zero_ne_one, reduceIte]
    · unfold F_X10_padOf
      simp (disch := first | omega | exact hB _) only [R_isFrog_t hR hB hf, R_isOn hR hB (f := f) (by omega), h3, u2_s, n10, u2_k, hR, ob_s, ob2_s, chk_t, lt_s', litI, n_add, n_mul, n_sub, inb_n, ix_n, n_le, n_lt, n_eq, n_bit, n_m1_lt, n_m1_eq, n_m1_m, n_ne_m, n_m_ne, n_m_lt0, n_0_le_m, if_true, if_false, eq_self, not_true_eq_false, not_false_eq_true, isB_0, isB_1, Bool.false_eq_true, true_and, and_true, false_and, and_false, and_self, Nat.one_ne_zero, Nat.zero_ne_one, reduceIte]
    · rw [u2_s]; rfl
theorem sc_frogsOn (hn : 2900 ≤ n) : SC_frogsOn n Rel := by
  intro j T M Mm x1 hj h
  obtain ⟨V, hR, W, hA⟩ := h.core
  have hB := W.b
  have hF := W.F
  have hP := W.P
  rcases (Classical.em (isL x1 (V 1))).symm with h1 | ⟨f, hf, rfl⟩
  · refine ⟨.inl 2, nI 0, up2 Mm 0 0 (nI 1), ?_, ?_, fun k hk => Sum.inl.inj hk ▸ rfl, ?_, no_r, h.thr hj⟩
    · unfold F_X9_frogsOn
      rw [reqPad_f hA hB h1]
      rfl
    · unfold F_X10_frogsOn
      simp (disch := first | omega | exact hB _) only [R_isPad_f hR hB h1, u2_s, n10, ob_s, ob2_s, chk_t, lt_s', litI, n_add, n_mul, n_sub, inb_n, ix_n, n_le, n_lt, n_eq, n_bit, n_m1_lt, n_m1_eq, n_m1_m, n_ne_m, n_m_ne, n_m_lt0, n_0_le_m, if_true, if_false, eq_self, not_true_eq_false, not_false_eq_true, isB_0, isB_1, Bool.false_eq_true, true_and, and_true, false_and, and_false, and_self, Nat.one_ne_zero, Nat.zero_ne_one, reduceIte]
    · rw [u2_s]; rfl
  · refine ⟨.inr (nI (onN V f)), nI (onN V f), up2 Mm 0 0 (nI 0), ?_, ?_, no_l, ?_, fun w hw => (Sum.inr.inj hw).symm, h.thr hj⟩
    · unfold F_X9_frogsOn
      simp (disch := first | omega | exact hB _) only [reqPad_t hA hB hf, obx_r, C_countOn hA hB hF (by omega : 13 ≤ n) (by omega : f < 65536), ob_s, ob2_s, chk_t, lt_s', litI, n_add, n_mul, n_sub, inb_n, ix_n, n_le, n_lt, n_eq, n_bit, n_m1_lt, n_m1_eq, n_m1_m, n_ne_m, n_m_ne, n_m_lt0, n_0_le_m, if_true, if_false, eq_self, not_true_eq_false, not_false_eq_true, isB_0, isB_1, Bool.false_eq_true, true_and, and_true, false_and, and_false, and_self, Nat.one_ne_zero, Nat.zero_ne_one, reduceIte]
    · unfold F_X10_frogsOn
      simp (disch := first | omega | exact hB _) only [R_isPad_t hR hB hf, u2_s, n10, R_on (hR.th (x := nI 0)) hB hF (by omega : 13 ≤ n) (by omega : f < 65536), ob_s, ob2_s, chk_t, lt_s', litI, n_add, n_mul, n_sub, inb_n, ix_n, n_le, n_lt, n_eq, n_bit, n_m1_lt, n_m1_eq, n_m1_m, n_ne_m, n_m_ne, n_m_lt0, n_0_le_m, if_true, if_false, eq_self, not_true_eq_false, not_false_eq_true, isB_0, isB_1, Bool.false_eq_true, true_and, and_true, false_and, and_false, and_self, Nat.one_ne_zero, Nat.zero_ne_one, reduceIte]
    · rw [u2_s]; rfl
theorem padW_set (V : Nat → Nat) (p : Nat) : sm (fun f => if (setN (fun f => decide (V (29 + f) = p + 1)) (V 0)).testBit f = true then V (17 + f) else 0) (V 0) = padW V p := by
  unfold padW
  refine sm_congr (fun f hf => ?_)
  rw [setN_bit, decide_eq_true hf, Bool.true_and]
  by_cases e : V (29 + f) = p + 1
  · rw [if_pos e, if_pos (decide_eq_true e)]
  · rw [if_neg e, if_neg (by rw [decide_eq_false e]; decide)]
theorem sc_padWeight (hn : 2900 ≤ n) : SC_padWeight n Rel := by
  intro j T M Mm x1 hj h
  obtain ⟨V, hR, W, hA⟩ := h.core
  have hB := W.b
  have hF := W.F
  have hP := W.P
  rcases (Classical.em (isL x1 (V 1))).symm with h1 | ⟨f, hf, rfl⟩
  · have key : ∃ r, F_X10_padWeight_L21 n n x1 (nI 0) (nI 0) (up2 Mm 0 0 (nI 1)) = some r ∧ r = (nI 0, up2 Mm 0 0 (nI 1)) := by
      have hR' : RR (up2 Mm 0 0 (nI 1)) V := hR.th
      refine loopI (fun k f (s : Int32) => F_X10_padWeight_L21 n k x1 s (nI f) (up2 Mm 0 0 (nI 1))) (fun _ _ => True) (fun r => r = (nI 0, up2 Mm 0 0 (nI 1))) 0 (V 0) (fun k s _ => ⟨(nI 0, up2 Mm 0 0 (nI 1)), ?_, rfl⟩) (fun k f s hs hf _ => ?_) n (by omega) (by omega) (nI 0) trivial
      · simp only [F_X10_padWeight_L21]
        simp (disch := first | omega | exact hB _) only [hR', Nat.le_refl, u2_s, n10, ob_s, ob2_s, chk_t, lt_s', litI, n_add, n_mul, n_sub, inb_n, ix_n, n_le, n_lt, n_eq, n_bit, n_m1_lt, n_m1_eq, n_m1_m, n_ne_m, n_m_ne, n_m_lt0, n_0_le_m, if_true, if_false, eq_self, not_true_eq_false, not_false_eq_true, isB_0, isB_1, Bool.false_eq_true, true_and, and_true, false_and, and_false, and_self, Nat.one_ne_zero, Nat.zero_ne_one, reduceIte]
      · have hle : ¬ V 0 ≤ f := by omega
        by_cases e : nI (V (29 + f)) = x1 + nI 1
        · refine ⟨s + nI (V (17 + f)), trivial, ?_⟩
          simp only [F_X10_padWeight_L21]
          simp (disch := first | omega | exact hB _) only [hR', hle, e, ob_s, ob2_s, chk_t, lt_s', litI, n_add, n_mul, n_sub, inb_n, ix_n, n_le, n_lt, n_eq, n_bit, n_m1_lt, n_m1_eq, n_m1_m, n_ne_m, n_m_ne, n_m_lt0, n_0_le_m, if_true, if_false, eq_self, not_true_eq_false, not_false_eq_true, isB_0, isB_1, Bool.false_eq_true, true_and, and_true, false_and, and_false, and_self, Nat.one_ne_zero, Nat.zero_ne_one, reduceIte]
        · refine ⟨s + nI 0, trivial, ?_⟩
          simp only [F_X10_padWeight_L21]
          simp (disch := first | omega | exact hB _) only [hR', hle, e, ob_s, ob2_s, chk_t, lt_s', litI, n_add, n_mul, n_sub, inb_n, ix_n, n_le, n_lt, n_eq, n_bit, n_m1_lt, n_m1_eq, n_m1_m, n_ne_m, n_m_ne, n_m_lt0, n_0_le_m, if_true, if_false, eq_self, not_true_eq_false, not_false_eq_true, isB_0, isB_1, Bool.false_eq_true, true_and, and_true, false_and, and_false, and_self, Nat.one_ne_zero, Nat.zero_ne_one, reduceIte]
    obtain ⟨r, k1, k2⟩ := key
    subst k2
    refine ⟨.inl 2, nI 0, up2 Mm 0 0 (nI 1), ?_, ?_, fun k hk => Sum.inl.inj hk ▸ rfl, ?_, no_r, h.thr hj⟩
    · unfold F_X9_padWeight
      rw [reqPad_f hA hB h1]
      rfl
    · unfold F_X10_padWeight
      simp (disch := first | omega | exact hB _) only [R_isPad_f hR hB h1, ob_s, ob2_s, chk_t, lt_s', litI, n_add, n_mul, n_sub, inb_n, ix_n, n_le, n_lt, n_eq, n_bit, n_m1_lt, n_m1_eq, n_m1_m, n_ne_m, n_m_ne, n_m_lt0, n_0_le_m, if_true, if_false, eq_self, not_true_eq_false, not_false_eq_true, isB_0, isB_1, Bool.false_eq_true, true_and, and_true, false_and, and_false, and_self, Nat.one_ne_zero, Nat.zero_ne_one, reduceIte]
      exact k1
    · rw [u2_s]; rfl
  · refine ⟨.inr (nI (padW V f)), nI (padW V f), up2 Mm 0 0 (nI 0), ?_, ?_, no_l, ?_, fun w hw => (Sum.inr.inj hw).symm, h.thr hj⟩
    · unfold F_X9_padWeight
      simp (disch := first | omega | exact hB _) only [reqPad_t hA hB hf, obx_r, C_sittersOf hA hB hF (by omega : 13 ≤ n) (by omega : f < 65536), C_weightOfSet hA hB hF (by omega : 13 ≤ n) (lt4096 hF), padW_set, ob_s, ob2_s, chk_t, lt_s', litI, n_add, n_mul, n_sub, inb_n, ix_n, n_le, n_lt, n_eq, n_bit, n_m1_lt, n_m1_eq, n_m1_m, n_ne_m, n_m_ne, n_m_lt0, n_0_le_m, if_true, if_false, eq_self, not_true_eq_false, not_false_eq_true, isB_0, isB_1, Bool.false_eq_true, true_and, and_true, false_and, and_false, and_self, Nat.one_ne_zero, Nat.zero_ne_one, reduceIte]
    · unfold F_X10_padWeight
      simp (disch := first | omega | exact hB _) only [R_isPad_t hR hB hf, n10, ob_s, ob2_s, chk_t, lt_s', litI, n_add, n_mul, n_sub, inb_n, ix_n, n_le, n_lt, n_eq, n_bit, n_m1_lt, n_m1_eq, n_m1_m, n_ne_m, n_m_ne, n_m_lt0, n_0_le_m, if_true, if_false, eq_self, not_true_eq_false, not_false_eq_true, isB_0, isB_1, Bool.false_eq_true, true_and, and_true, false_and, and_false, and_self, Nat.one_ne_zero, Nat.zero_ne_one, reduceIte]
      exact R_padWeight hR.th hB hF (by omega) (by omega) u2_s
    · rw [u2_s]; rfl
end QUE
