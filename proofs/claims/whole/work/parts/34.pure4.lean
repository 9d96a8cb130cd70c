/-! ===== PURE: the steps on a motion ===== -/
theorem ck23 {e : Nat} (h : e < 23) : (decide (e < 23) && decide (0 < 23)) = true := by simp [h]
theorem WM.list {c c' i l' : Nat} {V V' : Nat → Nat} (W : WF c V) (hi : i < 6) (hc : c ≤ c') (h0 : V' 0 = V 0) (hV : ∀ j, inM i j → j ≠ 59 + 10 * i + 5 → ¬ (119 + 12 * i ≤ j ∧ j < 131 + 12 * i) → V' j = V j) (h5 : V' (59 + 10 * i + 5) = l') (hl : l' ≤ 12) (hf : ∀ k, k < l' → V' (119 + 12 * i + k) < V 0) (hd : ∀ k k', k < k' → k' < l' → V' (119 + 12 * i + k) ≠ V' (119 + 12 * i + k')) : WM c' V' i := by
  obtain ⟨a0, a1, a2, a3, a4, a5, a6, a7, a8, a9, a10, a11⟩ := W.mo hi
  have e : ∀ j, j < 10 → j ≠ 5 → V' (59 + 10 * i + j) = V (59 + 10 * i + j) := fun j hj hj5 => hV _ (.inl ⟨by omega, by omega⟩) (by omega) (by omega)
  have e0 : V' (59 + 10 * i) = V (59 + 10 * i) := e 0 (by decide) (by decide)
  have ec : ∀ j, j < 36 → V' (191 + 36 * i + j) = V (191 + 36 * i + j) := fun j hj => hV _ (.inr (.inr ⟨by omega, by omega⟩)) (by omega) (by omega)
  refine ⟨by rw [e0]; exact a0, by rw [e 1 (by decide) (by decide)]; exact a1, by rw [e 2 (by decide) (by decide)]; exact a2, by rw [e 3 (by decide) (by decide)]; exact a3, by rw [e 4 (by decide) (by decide)]; exact a4, by rw [h5]; exact hl, by rw [e 6 (by decide) (by decide)]; omega, by rw [e 7 (by decide) (by decide)]; exact a7, ?_, ?_, ?_, ?_⟩
  · rw [h5, h0]; exact hf
  · rw [h5]; exact hd
  · intro k hk
    rw [e 7 (by decide) (by decide)] at hk
    have q := a10 k hk
    rw [Nat.add_assoc (191 + 36 * i), Nat.add_assoc (191 + 36 * i), ec (3 * k) (by omega), ec (3 * k + 1) (by omega), ec (3 * k + 2) (by omega), h0]
    exact q
  · intro k k' hk hk'
    rw [e 7 (by decide) (by decide)] at hk'
    rw [ec (3 * k) (by omega), ec (3 * k') (by omega)]
    exact a11 k k' hk hk'
theorem MR.list {c i mo l' : Nat} {V V' : Nat → Nat} {M M' : Mem} (h : MR M mo V i) (W : WF c V) (hi : i < 6) (hV : ∀ j, inM i j → j ≠ 59 + 10 * i + 5 → ¬ (119 + 12 * i ≤ j ∧ j < 131 + 12 * i) → V' j = V j) (hw : ∀ f, f < V 0 → V' (17 + f) = V (17 + f)) (h5 : V' (59 + 10 * i + 5) = l') (hM0 : ∀ j, j ≠ 2 → M' mo j = M mo j) (hM2 : M' mo 2 = nI l') (hMc : M' (mo + 2) = M (mo + 2)) (hMs : M' (mo + 3) = M (mo + 3)) (hL : ∀ k, k < l' → M' (mo + 1) k = nI (V' (119 + 12 * i + k))) : MR M' mo V' i := by
  obtain ⟨a0, a2, a3, a4, a7, a9, a10, a11, b1, b2, b3⟩ := h
  have hcl := W.ci hi
  have e : ∀ j, j < 10 → j ≠ 5 → V' (59 + 10 * i + j) = V (59 + 10 * i + j) := fun j hj hj5 => hV _ (.inl ⟨by omega, by omega⟩) (by omega) (by omega)
  have e0 : V' (59 + 10 * i) = V (59 + 10 * i) := e 0 (by decide) (by decide)
  have ec : ∀ j, j < 36 → V' (191 + 36 * i + j) = V (191 + 36 * i + j) := fun j hj => hV _ (.inr (.inr ⟨by omega, by omega⟩)) (by omega) (by omega)
  have ek : ∀ k, k < V (59 + 10 * i + 7) → V' (191 + 36 * i + 3 * k) = V (191 + 36 * i + 3 * k) := fun k hk => ec (3 * k) (by omega)
  have ek1 : ∀ k, k < V (59 + 10 * i + 7) → V' (191 + 36 * i + 3 * k + 1) = V (191 + 36 * i + 3 * k + 1) := fun k hk => ec (3 * k + 1) (by omega)
  have ek2 : ∀ k, k < V (59 + 10 * i + 7) → V' (191 + 36 * i + 3 * k + 2) = V (191 + 36 * i + 3 * k + 2) := fun k hk => ec (3 * k + 2) (by omega)
  unfold MR
  rw [hM0 0 (by decide), hM2, hM0 3 (by decide), hM0 4 (by decide), hM0 7 (by decide), hM0 9 (by decide), hM0 10 (by decide), hM0 11 (by decide), hM0 8 (by decide), hMc, hMs, e0, h5, e 1 (by decide) (by decide), e 4 (by decide) (by decide), e 7 (by decide) (by decide), e 2 (by decide) (by decide), e 3 (by decide) (by decide), e 6 (by decide) (by decide)]
  refine ⟨a0, rfl, a3, a4, a7, a9, a10, a11, hL, fun k hk => ⟨by rw [ek k hk]; exact (b2 k hk).1, ?_⟩, ?_⟩
  · unfold stg
    rw [ek1 k hk, ek k hk, hw _ (W.cf hi hk).1]
    exact (b2 k hk).2
  · obtain ⟨w, h1, h2, h3⟩ := b3
    refine ⟨w, h1, h2, fun f hf => (h3 f hf).trans ⟨?_, ?_⟩⟩
    · rintro ⟨k, p1, p2, p3⟩
      exact ⟨k, p1, by rw [ek k p1]; exact p2, by rw [ek2 k p1]; exact p3⟩
    · rintro ⟨k, p1, p2, p3⟩
      exact ⟨k, p1, by rw [← ek k p1]; exact p2, by rw [← ek2 k p1]; exact p3⟩
section STM
variable {n a c : Nat} {M Mm : Mem} {V : Nat → Nat}
/-- refused while the list is not to be signed, alike -/
theorem C_listOpen (hA : AR M a V) (W : WF c V) {i f : Nat} (hi : i < V 2) (hf : f < V 0) : F_X2_refusalWhileListOpen n a (nI i) (nI f) M = some (if enT V i f = true then (if V (59 + 10 * i + 2) = 0 then (if V (59 + 10 * i + 1) = 0 then 0 else 15) else 14) else 9) := by
  have hB := W.b
  have hP := W.M
  have hF := W.F
  have hm := hA.mo i (by omega)
  unfold F_X2_refusalWhileListOpen
  simp (disch := first | omega | exact hB _) only [C_pair_t hA hB hi hf, ck23, C_entitles hA W (i := i) (f := f) (by omega) (by omega), hm.de, hm.cl, ob_s, ob2_s, chk_t, lt_s', litI, n_add, n_mul, n_sub, inb_n, ix_n, n_le, n_lt, n_eq, n_bit, n_m1_lt, n_m1_eq, n_m1_m, n_ne_m, n_m_ne, n_m_lt0, n_0_le_m, if_true, if_false, eq_self, not_true_eq_false, not_false_eq_true, isB_0, isB_1, Bool.false_eq_true, true_and, and_true, false_and, and_false, and_self, Nat.one_ne_zero, Nat.zero_ne_one, reduceIte]
  by_cases e : enT V i f = true
  · simp (disch := first | omega | exact hB _) only [e, n10, ob_s, ob2_s, chk_t, lt_s', litI, n_add, n_mul, n_sub, inb_n, ix_n, n_le, n_lt, n_eq, n_bit, n_m1_lt, n_m1_eq, n_m1_m, n_ne_m, n_m_ne, n_m_lt0, n_0_le_m, if_true, if_false, eq_self, not_true_eq_false, not_false_eq_true, isB_0, isB_1, Bool.false_eq_true, true_and, and_true, false_and, and_false, and_self, Nat.one_ne_zero, Nat.zero_ne_one, reduceIte]
    split <;> (try split) <;> rfl
  · simp (disch := first | omega | exact hB _) only [e, ob_s, ob2_s, chk_t, lt_s', litI, n_add, n_mul, n_sub, inb_n, ix_n, n_le, n_lt, n_eq, n_bit, n_m1_lt, n_m1_eq, n_m1_m, n_ne_m, n_m_ne, n_m_lt0, n_0_le_m, if_true, if_false, eq_self, not_true_eq_false, not_false_eq_true, isB_0, isB_1, Bool.false_eq_true, true_and, and_true, false_and, and_false, and_self, Nat.one_ne_zero, Nat.zero_ne_one, reduceIte]
theorem s_signUp (hR : RR Mm V) (W : WF c V) (hc : c < 65000) (hn : 13 ≤ n) (hA : AR M a V) (x1 x2 : Int32) :
    StpR a c [2, 1, 0, 4] 65536 V M Mm (F_X2_refusalToEnlist n a x1 x2) (F_X2_enlist n a x1 x2) (F_X10_signs n x1 x2) := by
  have hB := W.b
  have hF := W.F
  have hP := W.M
  unfold StpR F_X2_refusalToEnlist F_X10_signs
  rcases (Classical.em (isL x1 (V 2) ∧ isL x2 (V 0))).symm with h1 | ⟨⟨i, hi, rfl⟩, ⟨f, hf, rfl⟩⟩
  · obtain ⟨e, he, h2⟩ := C_pair_f (n := n) hA hB h1
    have h3 : F_X2_refusalWhileListOpen n a x1 x2 M = some e := by
      unfold F_X2_refusalWhileListOpen
      rw [he]
      rcases h2 with rfl | rfl <;> rfl
    refine .inl ⟨e, by omega, by omega, by rcases h2 with rfl | rfl <;> decide, ?_, ?_⟩
    · rw [h3]
      rcases h2 with rfl | rfl <;> rfl
    · simp (disch := first | omega | exact hB _) only [R_there_f hR hB h1, R_fail, ob_s, ob2_s, chk_t, lt_s', litI, n_add, n_mul, n_sub, inb_n, ix_n, n_le, n_lt, n_eq, n_bit, n_m1_lt, n_m1_eq, n_m1_m, n_ne_m, n_m_ne, n_m_lt0, n_0_le_m, if_true, if_false, eq_self, not_true_eq_false, not_false_eq_true, isB_0, isB_1, Bool.false_eq_true, true_and, and_true, false_and, and_false, and_self, Nat.one_ne_zero, Nat.zero_ne_one, reduceIte]
      rcases h2 with rfl | rfl <;> rfl
  have hi6 : i < 6 := by omega
  have hf12 : f < 12 := by omega
  have hC := C_listOpen (n := n) hA W hi hf
  rcases (Decidable.em (enT V i f = true)).symm with h1 | h1
  · refine .inl ⟨9, by decide, by decide, by decide, ?_, ?_⟩
    · rw [hC, if_neg h1]; rfl
    · simp (disch := first | omega | exact hB _) only [R_there_t hR hB hi hf, R_isFor hR W hi6 hf12, h1, n10, R_fail, ob_s, ob2_s, chk_t, lt_s', litI, n_add, n_mul, n_sub, inb_n, ix_n, n_le, n_lt, n_eq, n_bit, n_m1_lt, n_m1_eq, n_m1_m, n_ne_m, n_m_ne, n_m_lt0, n_0_le_m, if_true, if_false, eq_self, not_true_eq_false, not_false_eq_true, isB_0, isB_1, Bool.false_eq_true, true_and, and_true, false_and, and_false, and_self, Nat.one_ne_zero, Nat.zero_ne_one, reduceIte]
      rfl
  rw [if_pos h1] at hC
  obtain ⟨_, w1, w2, _, _, w5, _, _, w8, w9, _, _⟩ := W.mo hi6
  rcases (Decidable.em (V (59 + 10 * i + 2) = 0)).symm with h2 | h2
  · have h2' : V (59 + 10 * i + 2) = 1 := by omega
    refine .inl ⟨14, by decide, by decide, by decide, ?_, ?_⟩
    · rw [hC, if_neg h2]; rfl
    · simp (disch := first | omega | exact hB _) only [R_there_t hR hB hi hf, R_isFor hR W hi6 hf12, h1, n10, R_isShut hR W hi6, h2', R_fail, ob_s, ob2_s, chk_t, lt_s', litI, n_add, n_mul, n_sub, inb_n, ix_n, n_le, n_lt, n_eq, n_bit, n_m1_lt, n_m1_eq, n_m1_m, n_ne_m, n_m_ne, n_m_lt0, n_0_le_m, if_true, if_false, eq_self, not_true_eq_false, not_false_eq_true, isB_0, isB_1, Bool.false_eq_true, true_and, and_true, false_and, and_false, and_self, Nat.one_ne_zero, Nat.zero_ne_one, reduceIte]
      rfl
  rw [if_pos h2] at hC
  rcases (Decidable.em (V (59 + 10 * i + 1) = 0)).symm with h3 | h3
  · have h3' : V (59 + 10 * i + 1) = 1 := by omega
    refine .inl ⟨15, by decide, by decide, by decide, ?_, ?_⟩
    · rw [hC, if_neg h3]; rfl
    · simp (disch := first | omega | exact hB _) only [R_there_t hR hB hi hf, R_isFor hR W hi6 hf12, h1, n10, R_isShut hR W hi6, h2, h3', R_fail, ob_s, ob2_s, chk_t, lt_s', litI, n_add, n_mul, n_sub, inb_n, ix_n, n_le, n_lt, n_eq, n_bit, n_m1_lt, n_m1_eq, n_m1_m, n_ne_m, n_m_ne, n_m_lt0, n_0_le_m, if_true, if_false, eq_self, not_true_eq_false, not_false_eq_true, isB_0, isB_1, Bool.false_eq_true, true_and, and_true, false_and, and_false, and_self, Nat.one_ne_zero, Nat.zero_ne_one, reduceIte]
      rfl
  rw [if_pos h3] at hC
  have hq := fst_le (fun k => decide (V (119 + 12 * i + k) = f)) (V (59 + 10 * i + 5))
  by_cases h4 : plc V i f < V (59 + 10 * i + 5)
  · have h5 : plc V i f < 2147483648 := by omega
    refine .inl ⟨18, by decide, by decide, by decide, ?_, ?_⟩
    · simp (disch := first | omega | exact hB _) only [hC, ck23, C_placeOf (n := n) (hA.mo i hi6) W hn hi6 (f := f) (by omega), h4, ob_s, ob2_s, chk_t, lt_s', litI, n_add, n_mul, n_sub, inb_n, ix_n, n_le, n_lt, n_eq, n_bit, n_m1_lt, n_m1_eq, n_m1_m, n_ne_m, n_m_ne, n_m_lt0, n_0_le_m, if_true, if_false, eq_self, not_true_eq_false, not_false_eq_true, isB_0, isB_1, Bool.false_eq_true, true_and, and_true, false_and, and_false, and_self, Nat.one_ne_zero, Nat.zero_ne_one, reduceIte]
    · simp (disch := first | omega | exact hB _) only [R_there_t hR hB hi hf, R_isFor hR W hi6 hf12, h1, n10, R_isShut hR W hi6, h2, h3, R_place hR W hn hi6 (f := f) (by omega), h4, Nat.not_lt_zero, R_fail, ob_s, ob2_s, chk_t, lt_s', litI, n_add, n_mul, n_sub, inb_n, ix_n, n_le, n_lt, n_eq, n_bit, n_m1_lt, n_m1_eq, n_m1_m, n_ne_m, n_m_ne, n_m_lt0, n_0_le_m, if_true, if_false, eq_self, not_true_eq_false, not_false_eq_true, isB_0, isB_1, Bool.false_eq_true, true_and, and_true, false_and, and_false, and_self, Nat.one_ne_zero, Nat.zero_ne_one, reduceIte]
      rfl
  have hl : V (59 + 10 * i + 5) < 12 := by
    have q := php 12 (V (59 + 10 * i + 5) + 1) (fun k => if k = V (59 + 10 * i + 5) then f else V (119 + 12 * i + k)) (fun k hk => by
      by_cases e : k = V (59 + 10 * i + 5)
      · simp only [e, if_true]; exact hf12
      · simp only [e, if_false]; have := w8 k (by omega); omega) (fun k k' hk hk' => by
      have e : k ≠ V (59 + 10 * i + 5) := by omega
      have hne : ∀ y, y < V (59 + 10 * i + 5) → V (119 + 12 * i + y) ≠ f := fun y hy => of_decide_eq_false (fst_lo (fun k => decide (V (119 + 12 * i + k) = f)) (V (59 + 10 * i + 5)) y (by unfold plc at h4; omega))
      by_cases e2 : k' = V (59 + 10 * i + 5)
      · simp only [e, e2, if_true, if_false]
        exact hne k (by omega)
      · simp only [e, e2, if_false]
        exact w9 k k' hk (by omega))
    omega
  have hne : ∀ y, y < V (59 + 10 * i + 5) → V (119 + 12 * i + y) ≠ f := fun y hy => of_decide_eq_false (fst_lo (fun k => decide (V (119 + 12 * i + k) = f)) (V (59 + 10 * i + 5)) y (by unfold plc at h4; omega))
  have hVo : ∀ j, ¬ inM i j → sV (sV V (119 + 12 * i + V (59 + 10 * i + 5)) f) (59 + 10 * i + 5) (V (59 + 10 * i + 5) + 1) j = V j := fun j hj => by
    unfold inM at hj
    rw [sV_n (by omega), sV_n (by omega)]
  have hVi : ∀ j, inM i j → j ≠ 59 + 10 * i + 5 → ¬ (119 + 12 * i ≤ j ∧ j < 131 + 12 * i) → sV (sV V (119 + 12 * i + V (59 + 10 * i + 5)) f) (59 + 10 * i + 5) (V (59 + 10 * i + 5) + 1) j = V j := fun j hj h5 h6 => by
    rw [sV_n h5, sV_n (by omega)]
  have hL : ∀ k, k < V (59 + 10 * i + 5) → sV (sV V (119 + 12 * i + V (59 + 10 * i + 5)) f) (59 + 10 * i + 5) (V (59 + 10 * i + 5) + 1) (119 + 12 * i + k) = V (119 + 12 * i + k) := fun k hk => by
    rw [sV_n (by omega), sV_n (by omega)]
  have hLl : sV (sV V (119 + 12 * i + V (59 + 10 * i + 5)) f) (59 + 10 * i + 5) (V (59 + 10 * i + 5) + 1) (119 + 12 * i + V (59 + 10 * i + 5)) = f := by
    rw [sV_n (by omega), sV_s]
  refine .inr ⟨?_, sV (sV V (119 + 12 * i + V (59 + 10 * i + 5)) f) (59 + 10 * i + 5) (V (59 + 10 * i + 5) + 1), V (59 + 10 * i + 5) + 1, up2 (up2 Mm 1 (119 + 12 * i + V (59 + 10 * i + 5)) (nI f)) 1 (59 + 10 * i + 5) (nI (V (59 + 10 * i + 5) + 1)), by omega, ?_, fun k hk => by rw [u2_k hk, u2_k hk], hR.up.up, ?_, ?_⟩
  · simp (disch := first | omega | exact hB _) only [hC, ck23, C_placeOf (n := n) (hA.mo i hi6) W hn hi6 (f := f) (by omega), h4, ob_s, ob2_s, chk_t, lt_s', litI, n_add, n_mul, n_sub, inb_n, ix_n, n_le, n_lt, n_eq, n_bit, n_m1_lt, n_m1_eq, n_m1_m, n_ne_m, n_m_ne, n_m_lt0, n_0_le_m, if_true, if_false, eq_self, not_true_eq_false, not_false_eq_true, isB_0, isB_1, Bool.false_eq_true, true_and, and_true, false_and, and_false, and_self, Nat.one_ne_zero, Nat.zero_ne_one, reduceIte]
  · simp (disch := first | omega | exact hB _) only [R_there_t hR hB hi hf, R_isFor hR W hi6 hf12, h1, n10, R_isShut hR W hi6, h2, h3, R_place hR W hn hi6 (f := f) (by omega), h4, R_of, R_listed, hR, u2_j, u2_s, ob_s, ob2_s, chk_t, lt_s', litI, n_add, n_mul, n_sub, inb_n, ix_n, n_le, n_lt, n_eq, n_bit, n_m1_lt, n_m1_eq, n_m1_m, n_ne_m, n_m_ne, n_m_lt0, n_0_le_m, if_true, if_false, eq_self, not_true_eq_false, not_false_eq_true, isB_0, isB_1, Bool.false_eq_true, true_and, and_true, false_and, and_false, and_self, Nat.one_ne_zero, Nat.zero_ne_one, reduceIte]
  · refine W.mot hi6 (by omega) hVo (sV_lt (sV_lt W.b6 (by omega)) (by omega)) (WM.list W hi6 (by omega) (hVo 0 (by unfold inM; omega)) hVi sV_s (by omega) (fun k hk => ?_) (fun k k' hk hk' => ?_))
    · by_cases e : k = V (59 + 10 * i + 5)
      · rw [e, hLl]; exact hf
      · rw [hL k (by omega)]; exact w8 k (by omega)
    · rw [hL k (by omega)]
      by_cases e : k' = V (59 + 10 * i + 5)
      · rw [e, hLl]; exact hne k (by omega)
      · rw [hL k' (by omega)]; exact w9 k k' hk (by omega)
  · intro M0 hA
    have hm := hA.mo i hi6
    refine ⟨up2 (up2 M0 (a + 6 + 1 + 4 * i + 1) (V (59 + 10 * i + 5)) (nI f)) (a + 6 + 1 + 4 * i) 2 (nI (V (59 + 10 * i + 5) + 1)), ?_, ?_, fun k hk => by rw [u2_k (by omega), u2_k (by omega)]⟩
    · have hl' : ¬ 12 ≤ V (59 + 10 * i + 5) := by omega
      unfold F_X2_enlist F_X6_addToList
      simp (disch := first | omega | exact hB _) only [hm.ln, u2_k, u2_j, u2_s, hl', ob_s, ob2_s, chk_t, lt_s', litI, n_add, n_mul, n_sub, inb_n, ix_n, n_le, n_lt, n_eq, n_bit, n_m1_lt, n_m1_eq, n_m1_m, n_ne_m, n_m_ne, n_m_lt0, n_0_le_m, if_true, if_false, eq_self, not_true_eq_false, not_false_eq_true, isB_0, isB_1, Bool.false_eq_true, true_and, and_true, false_and, and_false, and_self, Nat.one_ne_zero, Nat.zero_ne_one, reduceIte]
    · refine hA.mot W hi6 (fun k hk => by rw [u2_k (by omega), u2_k (by omega)]) hVo (hm.list W hi6 hVi (fun g hg => hVo _ (by unfold inM; omega)) sV_s (fun j hj => by rw [u2_j hj, u2_k (by omega)]) u2_s (by rw [u2_k (by omega), u2_k (by omega)]) (by rw [u2_k (by omega), u2_k (by omega)]) (fun k hk => ?_))
      rw [u2_k (by omega)]
      by_cases e : k = V (59 + 10 * i + 5)
      · rw [e, hLl, u2_s]
      · rw [hL k (by omega), u2_j e]; exact hm.le k (by omega)
end STM
