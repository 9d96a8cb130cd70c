/-! ===== PURE: croak ===== -/
section CRO
variable {n a c : Nat} {M Mm : Mem} {V : Nat → Nat}
def croV (V : Nat → Nat) (i f d s : Nat) : Nat → Nat := sV (sV (sV (sV V (191 + 36 * i + 3 * V (59 + 10 * i + 7)) f) (191 + 36 * i + 3 * V (59 + 10 * i + 7) + 1) d) (191 + 36 * i + 3 * V (59 + 10 * i + 7) + 2) s) (59 + 10 * i + 7) (V (59 + 10 * i + 7) + 1)
theorem croV_o {i f d s j : Nat} (h : j ≠ 59 + 10 * i + 7) (h2 : ¬ (191 + 36 * i + 3 * V (59 + 10 * i + 7) ≤ j ∧ j < 191 + 36 * i + 3 * V (59 + 10 * i + 7) + 3)) : croV V i f d s j = V j := by
  unfold croV
  rw [sV_n h, sV_n (by omega), sV_n (by omega), sV_n (by omega)]
theorem croV_7 {i f d s : Nat} : croV V i f d s (59 + 10 * i + 7) = V (59 + 10 * i + 7) + 1 := sV_s
theorem croV_0 {i f d s : Nat} (hi : i < 6) : croV V i f d s (191 + 36 * i + 3 * V (59 + 10 * i + 7)) = f := by
  unfold croV
  rw [sV_n (by omega), sV_n (by omega), sV_n (by omega), sV_s]
theorem croV_1 {i f d s : Nat} (hi : i < 6) : croV V i f d s (191 + 36 * i + 3 * V (59 + 10 * i + 7) + 1) = d := by
  unfold croV
  rw [sV_n (by omega), sV_n (by omega), sV_s]
theorem croV_2 {i f d s : Nat} (hi : i < 6) : croV V i f d s (191 + 36 * i + 3 * V (59 + 10 * i + 7) + 2) = s := by
  unfold croV
  rw [sV_n (by omega), sV_s]
theorem cro_no {i f : Nat} (h4 : ¬ crk V i f < V (59 + 10 * i + 7)) : ∀ y, y < V (59 + 10 * i + 7) → V (191 + 36 * i + 3 * y) ≠ f := fun y hy => of_decide_eq_false (fst_lo (fun k => decide (V (191 + 36 * i + 3 * k) = f)) (V (59 + 10 * i + 7)) y (by unfold crk at h4; omega))
theorem cro_lt (W : WF c V) {i f : Nat} (hi : i < 6) (hf : f < 12) (h4 : ¬ crk V i f < V (59 + 10 * i + 7)) : V (59 + 10 * i + 7) < 12 := by
  have hF := W.F
  have q := php 12 (V (59 + 10 * i + 7) + 1) (fun k => if k = V (59 + 10 * i + 7) then f else V (191 + 36 * i + 3 * k)) (fun k hk => by
    by_cases e : k = V (59 + 10 * i + 7)
    · simp only [e, if_true]; exact hf
    · simp only [e, if_false]; have := (W.cf hi (k := k) (by omega)).1; omega) (fun k k' hk hk' => by
    have e : k ≠ V (59 + 10 * i + 7) := by omega
    by_cases e2 : k' = V (59 + 10 * i + 7)
    · simp only [e, e2, if_true, if_false]
      exact cro_no h4 k (by omega)
    · simp only [e, e2, if_false]
      exact W.cd hi hk (by omega))
  omega
theorem cro_WF (W : WF c V) {i f d s : Nat} (hi : i < 6) (hf : f < V 0) (hd : d ≤ 9) (hd1 : 1 ≤ d) (hs : s ≤ 1) (h4 : ¬ crk V i f < V (59 + 10 * i + 7)) : WF (c + 1) (croV V i f d s) := by
  have hF := W.F
  have hl := cro_lt W hi (by omega) h4
  obtain ⟨a0, a1, a2, a3, a4, a5, a6, a7, a8, a9, a10, a11⟩ := W.mo hi
  have o : ∀ j, j < 7 → croV V i f d s (59 + 10 * i + j) = V (59 + 10 * i + j) := fun j hj => croV_o (by omega) (by omega)
  have o0 : croV V i f d s (59 + 10 * i) = V (59 + 10 * i) := o 0 (by decide)
  have ol : ∀ k, k < 12 → croV V i f d s (119 + 12 * i + k) = V (119 + 12 * i + k) := fun k hk => croV_o (by omega) (by omega)
  have oF : croV V i f d s 0 = V 0 := croV_o (by omega) (by omega)
  refine W.mot hi (by omega) (fun j hj => croV_o (by unfold inM at hj; omega) (by unfold inM at hj; omega)) (by unfold croV; exact sV_lt (sV_lt (sV_lt (sV_lt W.b6 (by omega)) (by omega)) (by omega)) (by omega)) ?_
  unfold WM
  rw [o0, o 1 (by decide), o 2 (by decide), o 3 (by decide), o 4 (by decide), o 5 (by decide), o 6 (by decide), croV_7, oF]
  refine ⟨a0, a1, a2, a3, a4, a5, by omega, by omega, fun k hk => ?_, fun k k' hk hk' => ?_, fun k hk => ?_, fun k k' hk hk' => ?_⟩
  · rw [ol k (by omega)]; exact a8 k hk
  · rw [ol k (by omega), ol k' (by omega)]; exact a9 k k' hk hk'
  · by_cases e : k = V (59 + 10 * i + 7)
    · subst e
      rw [croV_0 hi, croV_1 hi, croV_2 hi]
      exact ⟨hf, hd, hs, hd1⟩
    · rw [croV_o (by omega) (by omega), croV_o (by omega) (by omega), croV_o (by omega) (by omega)]
      exact a10 k (by omega)
  · rw [croV_o (j := 191 + 36 * i + 3 * k) (by omega) (by omega)]
    by_cases e : k' = V (59 + 10 * i + 7)
    · subst e
      rw [croV_0 hi]
      exact cro_no h4 k hk
    · rw [croV_o (by omega) (by omega)]
      exact a11 k k' hk (by omega)
theorem cro_MR {i f d s mo w' : Nat} {M' : Mem} (W : WF c V) (hm : MR M mo V i) (hi : i < 6) (hf : f < V 0) (h4 : ¬ crk V i f < V (59 + 10 * i + 7))
    (g0 : ∀ j, j ≠ 7 → j ≠ 8 → M' mo j = M mo j) (g7 : M' mo 7 = nI (V (59 + 10 * i + 7) + 1)) (g1 : M' (mo + 1) = M (mo + 1))
    (g2 : ∀ k, k ≠ V (59 + 10 * i + 7) → M' (mo + 2) k = M (mo + 2) k) (g3 : M' (mo + 2) (V (59 + 10 * i + 7)) = nI f)
    (g4 : ∀ k, k ≠ V (59 + 10 * i + 7) → M' (mo + 3) k = M (mo + 3) k) (g5 : M' (mo + 3) (V (59 + 10 * i + 7)) = nI (d * V (17 + f)))
    (g8 : M' mo 8 = nI w') (hw' : w' < 4096) (hb : ∀ w, M mo 8 = nI w → w < 4096 → ∀ g, g < 12 → (w'.testBit g = true ↔ w.testBit g = true ∨ (g = f ∧ s = 1))) : MR M' mo (croV V i f d s) i := by
  have hF := W.F
  have hl := cro_lt W hi (by omega) h4
  obtain ⟨a0, a2, a3, a4, a7, a9, a10, a11, b1, b2, b3⟩ := hm
  have hli := W.li hi
  have o : ∀ j, j < 7 → croV V i f d s (59 + 10 * i + j) = V (59 + 10 * i + j) := fun j hj => croV_o (by omega) (by omega)
  have o0 : croV V i f d s (59 + 10 * i) = V (59 + 10 * i) := o 0 (by decide)
  have ow : ∀ g, g < 12 → croV V i f d s (17 + g) = V (17 + g) := fun g hg => croV_o (by omega) (by omega)
  have oc : ∀ k, k < V (59 + 10 * i + 7) → croV V i f d s (191 + 36 * i + 3 * k) = V (191 + 36 * i + 3 * k) := fun k hk => croV_o (by omega) (by omega)
  have oc1 : ∀ k, k < V (59 + 10 * i + 7) → croV V i f d s (191 + 36 * i + 3 * k + 1) = V (191 + 36 * i + 3 * k + 1) := fun k hk => croV_o (by omega) (by omega)
  have oc2 : ∀ k, k < V (59 + 10 * i + 7) → croV V i f d s (191 + 36 * i + 3 * k + 2) = V (191 + 36 * i + 3 * k + 2) := fun k hk => croV_o (by omega) (by omega)
  unfold MR
  rw [o0, o 1 (by decide), o 2 (by decide), o 3 (by decide), o 4 (by decide), o 5 (by decide), o 6 (by decide), croV_7, g7, g1, g0 0 (by decide) (by decide), g0 2 (by decide) (by decide), g0 3 (by decide) (by decide), g0 4 (by decide) (by decide), g0 9 (by decide) (by decide), g0 10 (by decide) (by decide), g0 11 (by decide) (by decide)]
  refine ⟨a0, a2, a3, a4, rfl, a9, a10, a11, fun k hk => ?_, fun k hk => ?_, w', hw', g8, fun g hg => ?_⟩
  · rw [croV_o (by omega) (by omega)]; exact b1 k hk
  · unfold stg
    by_cases e : k = V (59 + 10 * i + 7)
    · subst e
      rw [croV_0 hi, croV_1 hi, ow f (by omega)]
      exact ⟨g3, g5⟩
    · have hk2 : k < V (59 + 10 * i + 7) := by omega
      have q := (W.cf hi hk2).1
      rw [oc k hk2, oc1 k hk2, ow _ (by omega), g2 k e, g4 k e]
      exact b2 k hk2
  · obtain ⟨w, h1, h2, h3⟩ := b3
    rw [hb w h2 h1 g hg, h3 g hg]
    constructor
    · rintro (⟨k, p1, p2, p3⟩ | ⟨rfl, rfl⟩)
      · exact ⟨k, by omega, by rw [oc k p1]; exact p2, by rw [oc2 k p1]; exact p3⟩
      · exact ⟨V (59 + 10 * i + 7), by omega, croV_0 hi, croV_2 hi⟩
    · rintro ⟨k, p1, p2, p3⟩
      by_cases e : k = V (59 + 10 * i + 7)
      · subst e
        rw [croV_0 hi] at p2
        rw [croV_2 hi] at p3
        exact .inr ⟨p2.symm, p3⟩
      · have hk2 : k < V (59 + 10 * i + 7) := by omega
        rw [oc k hk2] at p2
        rw [oc2 k hk2] at p3
        exact .inl ⟨k, hk2, p2, p3⟩
theorem s_croak (hR : RR Mm V) (W : WF c V) (hn : 14 ≤ n) (hA : AR M a V) (x1 x2 x3 : Int32) {s : Nat} (hs : s ≤ 1) :
    StpR a c [2, 1, 0, 4] 65536 V M Mm (F_X2_refusalToHear n a x1 x2 x3) (F_X2_hear n a x1 x2 x3 (nI s)) (F_X10_croaks n x1 x2 x3 (nI s)) := by
  have hB := W.b
  have hF := W.F
  have hP := W.M
  unfold StpR F_X2_refusalToHear F_X10_croaks
  rcases (Classical.em (isL x1 (V 2) ∧ isL x2 (V 0))).symm with h1 | ⟨⟨i, hi, rfl⟩, ⟨f, hf, rfl⟩⟩
  · obtain ⟨e, he, h2⟩ := C_pair_f (n := n) hA hB h1
    refine .inl ⟨e, by omega, by omega, by rcases h2 with rfl | rfl <;> decide, ?_, ?_⟩
    · rw [he]
      rcases h2 with rfl | rfl <;> rfl
    · simp (disch := first | omega | exact hB _) only [R_there_f hR hB h1, R_fail, ob_s, ob2_s, chk_t, lt_s', litI, n_add, n_mul, n_sub, inb_n, ix_n, n_le, n_lt, n_eq, n_bit, n_m1_lt, n_m1_eq, n_m1_m, n_ne_m, n_m_ne, n_m_lt0, n_0_le_m, if_true, if_false, eq_self, not_true_eq_false, not_false_eq_true, isB_0, isB_1, Bool.false_eq_true, true_and, and_true, false_and, and_false, and_self, Nat.one_ne_zero, Nat.zero_ne_one, reduceIte]
      rcases h2 with rfl | rfl <;> rfl
  have hi6 : i < 6 := by omega
  have hf12 : f < 12 := by omega
  rcases i_or x3 with h1 | ⟨d, hd, rfl⟩
  · have h2 := neg_lt (v := 1) h1 (by decide)
    refine .inl ⟨8, by decide, by decide, by decide, ?_, ?_⟩
    · simp (disch := first | omega | exact hB _) only [C_pair_t hA hB hi hf, ck23, h2, ob_s, ob2_s, chk_t, lt_s', litI, n_add, n_mul, n_sub, inb_n, ix_n, n_le, n_lt, n_eq, n_bit, n_m1_lt, n_m1_eq, n_m1_m, n_ne_m, n_m_ne, n_m_lt0, n_0_le_m, if_true, if_false, eq_self, not_true_eq_false, not_false_eq_true, isB_0, isB_1, Bool.false_eq_true, true_and, and_true, false_and, and_false, and_self, Nat.one_ne_zero, Nat.zero_ne_one, reduceIte]
    · simp (disch := first | omega | exact hB _) only [R_there_t hR hB hi hf, n10, R_isIn_neg h1, R_fail, ob_s, ob2_s, chk_t, lt_s', litI, n_add, n_mul, n_sub, inb_n, ix_n, n_le, n_lt, n_eq, n_bit, n_m1_lt, n_m1_eq, n_m1_m, n_ne_m, n_m_ne, n_m_lt0, n_0_le_m, if_true, if_false, eq_self, not_true_eq_false, not_false_eq_true, isB_0, isB_1, Bool.false_eq_true, true_and, and_true, false_and, and_false, and_self, Nat.one_ne_zero, Nat.zero_ne_one, reduceIte]
      rfl
  rcases (Decidable.em (1 ≤ d ∧ d ≤ 9)).symm with hd9 | hd9
  · refine .inl ⟨8, by decide, by decide, by decide, ?_, ?_⟩
    · by_cases h : d < 1
      · simp (disch := first | omega | exact hB _) only [C_pair_t hA hB hi hf, ck23, h, ob_s, ob2_s, chk_t, lt_s', litI, n_add, n_mul, n_sub, inb_n, ix_n, n_le, n_lt, n_eq, n_bit, n_m1_lt, n_m1_eq, n_m1_m, n_ne_m, n_m_ne, n_m_lt0, n_0_le_m, if_true, if_false, eq_self, not_true_eq_false, not_false_eq_true, isB_0, isB_1, Bool.false_eq_true, true_and, and_true, false_and, and_false, and_self, Nat.one_ne_zero, Nat.zero_ne_one, reduceIte]
      · have h2 : ¬ d ≤ 9 := by omega
        simp (disch := first | omega | exact hB _) only [C_pair_t hA hB hi hf, ck23, h, h2, ob_s, ob2_s, chk_t, lt_s', litI, n_add, n_mul, n_sub, inb_n, ix_n, n_le, n_lt, n_eq, n_bit, n_m1_lt, n_m1_eq, n_m1_m, n_ne_m, n_m_ne, n_m_lt0, n_0_le_m, if_true, if_false, eq_self, not_true_eq_false, not_false_eq_true, isB_0, isB_1, Bool.false_eq_true, true_and, and_true, false_and, and_false, and_self, Nat.one_ne_zero, Nat.zero_ne_one, reduceIte]
    · simp (disch := first | omega | exact hB _) only [R_there_t hR hB hi hf, n10, R_isIn, hd9, R_fail, ob_s, ob2_s, chk_t, lt_s', litI, n_add, n_mul, n_sub, inb_n, ix_n, n_le, n_lt, n_eq, n_bit, n_m1_lt, n_m1_eq, n_m1_m, n_ne_m, n_m_ne, n_m_lt0, n_0_le_m, if_true, if_false, eq_self, not_true_eq_false, not_false_eq_true, isB_0, isB_1, Bool.false_eq_true, true_and, and_true, false_and, and_false, and_self, Nat.one_ne_zero, Nat.zero_ne_one, reduceIte]
      rfl
  have hd1 : ¬ d < 1 := by omega
  rcases (Decidable.em (enT V i f = true)).symm with h1 | h1
  · refine .inl ⟨9, by decide, by decide, by decide, ?_, ?_⟩
    · simp (disch := first | omega | exact hB _) only [C_pair_t hA hB hi hf, ck23, hd1, hd9.2, C_entitles hA W hi6 hf12, h1, ob_s, ob2_s, chk_t, lt_s', litI, n_add, n_mul, n_sub, inb_n, ix_n, n_le, n_lt, n_eq, n_bit, n_m1_lt, n_m1_eq, n_m1_m, n_ne_m, n_m_ne, n_m_lt0, n_0_le_m, if_true, if_false, eq_self, not_true_eq_false, not_false_eq_true, isB_0, isB_1, Bool.false_eq_true, true_and, and_true, false_and, and_false, and_self, Nat.one_ne_zero, Nat.zero_ne_one, reduceIte]
    · simp (disch := first | omega | exact hB _) only [R_there_t hR hB hi hf, n10, R_isIn, hd9, R_isFor hR W hi6 hf12, h1, R_fail, ob_s, ob2_s, chk_t, lt_s', litI, n_add, n_mul, n_sub, inb_n, ix_n, n_le, n_lt, n_eq, n_bit, n_m1_lt, n_m1_eq, n_m1_m, n_ne_m, n_m_ne, n_m_lt0, n_0_le_m, if_true, if_false, eq_self, not_true_eq_false, not_false_eq_true, isB_0, isB_1, Bool.false_eq_true, true_and, and_true, false_and, and_false, and_self, Nat.one_ne_zero, Nat.zero_ne_one, reduceIte]
      rfl
  rcases due_iff (n := n) hA hR W hi with ⟨e, e1, e2, e3, e4, e5⟩ | ⟨e4, e5⟩
  · refine .inl ⟨e, e1, e2, by rw [e3]; decide, ?_, ?_⟩
    · simp (disch := first | omega | exact hB _) only [C_pair_t hA hB hi hf, ck23, hd1, hd9.2, C_entitles hA W hi6 hf12, h1, n10, e4, e1, ob_s, ob2_s, chk_t, lt_s', litI, n_add, n_mul, n_sub, inb_n, ix_n, n_le, n_lt, n_eq, n_bit, n_m1_lt, n_m1_eq, n_m1_m, n_ne_m, n_m_ne, n_m_lt0, n_0_le_m, if_true, if_false, eq_self, not_true_eq_false, not_false_eq_true, isB_0, isB_1, Bool.false_eq_true, true_and, and_true, false_and, and_false, and_self, Nat.one_ne_zero, Nat.zero_ne_one, reduceIte]
    · rw [e3]
      simp (disch := first | omega | exact hB _) only [R_there_t hR hB hi hf, n10, R_isIn, hd9, R_isFor hR W hi6 hf12, h1, e5, R_fail, ob_s, ob2_s, chk_t, lt_s', litI, n_add, n_mul, n_sub, inb_n, ix_n, n_le, n_lt, n_eq, n_bit, n_m1_lt, n_m1_eq, n_m1_m, n_ne_m, n_m_ne, n_m_lt0, n_0_le_m, if_true, if_false, eq_self, not_true_eq_false, not_false_eq_true, isB_0, isB_1, Bool.false_eq_true, true_and, and_true, false_and, and_false, and_self, Nat.one_ne_zero, Nat.zero_ne_one, reduceIte]
      rfl
  by_cases h3 : V (29 + f) = 0
  · refine .inl ⟨19, by decide, by decide, by decide, ?_, ?_⟩
    · simp (disch := first | omega | exact hB _) only [C_pair_t hA hB hi hf, ck23, hd1, hd9.2, C_entitles hA W hi6 hf12, h1, n10, e4, C_sits hA hB hF hf, h3, ob_s, ob2_s, chk_t, lt_s', litI, n_add, n_mul, n_sub, inb_n, ix_n, n_le, n_lt, n_eq, n_bit, n_m1_lt, n_m1_eq, n_m1_m, n_ne_m, n_m_ne, n_m_lt0, n_0_le_m, if_true, if_false, eq_self, not_true_eq_false, not_false_eq_true, isB_0, isB_1, Bool.false_eq_true, true_and, and_true, false_and, and_false, and_self, Nat.one_ne_zero, Nat.zero_ne_one, reduceIte]
    · simp (disch := first | omega | exact hB _) only [R_there_t hR hB hi hf, n10, R_isIn, hd9, R_isFor hR W hi6 hf12, h1, e5, R_isOn hR hB hf12, h3, R_fail, ob_s, ob2_s, chk_t, lt_s', litI, n_add, n_mul, n_sub, inb_n, ix_n, n_le, n_lt, n_eq, n_bit, n_m1_lt, n_m1_eq, n_m1_m, n_ne_m, n_m_ne, n_m_lt0, n_0_le_m, if_true, if_false, eq_self, not_true_eq_false, not_false_eq_true, isB_0, isB_1, Bool.false_eq_true, true_and, and_true, false_and, and_false, and_self, Nat.one_ne_zero, Nat.zero_ne_one, reduceIte]
      rfl
  by_cases h4 : crk V i f < V (59 + 10 * i + 7)
  · refine .inl ⟨20, by decide, by decide, by decide, ?_, ?_⟩
    · simp (disch := first | omega | exact hB _) only [C_pair_t hA hB hi hf, ck23, hd1, hd9.2, C_entitles hA W hi6 hf12, h1, n10, e4, C_sits hA hB hF hf, h3, C_hasCroakOf (n := n) (hA.mo i hi6) W (by omega) hi6 (f := f) (by omega), h4, ob_s, ob2_s, chk_t, lt_s', litI, n_add, n_mul, n_sub, inb_n, ix_n, n_le, n_lt, n_eq, n_bit, n_m1_lt, n_m1_eq, n_m1_m, n_ne_m, n_m_ne, n_m_lt0, n_0_le_m, if_true, if_false, eq_self, not_true_eq_false, not_false_eq_true, isB_0, isB_1, Bool.false_eq_true, true_and, and_true, false_and, and_false, and_self, Nat.one_ne_zero, Nat.zero_ne_one, reduceIte]
    · simp (disch := first | omega | exact hB _) only [R_there_t hR hB hi hf, n10, R_isIn, hd9, R_isFor hR W hi6 hf12, h1, e5, R_isOn hR hB hf12, h3, R_hasCroaked hR W (by omega : 13 ≤ n) hi6 (f := f) (by omega), h4, R_fail, ob_s, ob2_s, chk_t, lt_s', litI, n_add, n_mul, n_sub, inb_n, ix_n, n_le, n_lt, n_eq, n_bit, n_m1_lt, n_m1_eq, n_m1_m, n_ne_m, n_m_ne, n_m_lt0, n_0_le_m, if_true, if_false, eq_self, not_true_eq_false, not_false_eq_true, isB_0, isB_1, Bool.false_eq_true, true_and, and_true, false_and, and_false, and_self, Nat.one_ne_zero, Nat.zero_ne_one, reduceIte]
      rfl
  have hl := cro_lt W hi6 hf12 h4
  have W1 : WF (c + 1) (croV V i f d s) := cro_WF W hi6 hf hd9.2 hd9.1 hs h4
  have hR1 : RR (up2 (up2 (up2 (up2 Mm 1 (191 + 36 * i + 3 * V (59 + 10 * i + 7)) (nI f)) 1 (191 + 36 * i + 3 * V (59 + 10 * i + 7) + 1) (nI d)) 1 (191 + 36 * i + 3 * V (59 + 10 * i + 7) + 2) (nI s)) 1 (59 + 10 * i + 7) (nI (V (59 + 10 * i + 7) + 1))) (croV V i f d s) := hR.up.up.up.up
  refine .inr ⟨?_, croV V i f d s, sumS (croV V i f d s) i s, _, by have := sumS_le W1 (s := s) hi6; omega, ?_, fun k hk => ?_, hR1, W1, fun M0 hA => ?_⟩
  · simp (disch := first | omega | exact hB _) only [C_pair_t hA hB hi hf, ck23, hd1, hd9.2, C_entitles hA W hi6 hf12, h1, n10, e4, C_sits hA hB hF hf, h3, C_hasCroakOf (n := n) (hA.mo i hi6) W (by omega) hi6 (f := f) (by omega), h4, ob_s, ob2_s, chk_t, lt_s', litI, n_add, n_mul, n_sub, inb_n, ix_n, n_le, n_lt, n_eq, n_bit, n_m1_lt, n_m1_eq, n_m1_m, n_ne_m, n_m_ne, n_m_lt0, n_0_le_m, if_true, if_false, eq_self, not_true_eq_false, not_false_eq_true, isB_0, isB_1, Bool.false_eq_true, true_and, and_true, false_and, and_false, and_self, Nat.one_ne_zero, Nat.zero_ne_one, reduceIte]
  · simp (disch := first | omega | exact hB _) only [R_there_t hR hB hi hf, n10, R_isIn, hd9, R_isFor hR W hi6 hf12, h1, e5, R_isOn hR hB hf12, h3, R_hasCroaked hR W (by omega : 13 ≤ n) hi6 (f := f) (by omega), h4, R_of, R_croaked, hR, u2_j, R_sum hR1 W1 (by omega : 13 ≤ n) hi6 (by omega : s < 65536), ob_s, ob2_s, chk_t, lt_s', litI, n_add, n_mul, n_sub, inb_n, ix_n, n_le, n_lt, n_eq, n_bit, n_m1_lt, n_m1_eq, n_m1_m, n_ne_m, n_m_ne, n_m_lt0, n_0_le_m, if_true, if_false, eq_self, not_true_eq_false, not_false_eq_true, isB_0, isB_1, Bool.false_eq_true, true_and, and_true, false_and, and_false, and_self, Nat.one_ne_zero, Nat.zero_ne_one, reduceIte]
  · rw [u2_k hk, u2_k hk, u2_k hk, u2_k hk]
  · have hm := hA.mo i hi6
    have hwt := (W.fr hf12).2.1
    have hmul : d * V (17 + f) ≤ 9 * 9 := Nat.mul_le_mul hd9.2 hwt
    obtain ⟨w, w1, w2, w3⟩ := hm.fv
    have h7 : (2 : Nat) ^ f < 4096 := Nat.pow_lt_pow_right (a := 2) (n := 12) (by decide) hf12
    have hV : ∀ j, ¬ inM i j → croV V i f d s j = V j := fun j hj => croV_o (by unfold inM at hj; omega) (by unfold inM at hj; omega)
    have hl' : ¬ 12 ≤ V (59 + 10 * i + 7) := by omega
    have gen : ∀ w', w' < 4096 → (∀ g, g < 12 → (w'.testBit g = true ↔ w.testBit g = true ∨ (g = f ∧ s = 1))) → AR (up2 (up2 (up2 (up2 M0 (a + 6 + 1 + 4 * i + 2) (V (59 + 10 * i + 7)) (nI f)) (a + 6 + 1 + 4 * i + 3) (V (59 + 10 * i + 7)) (nI (d * V (17 + f)))) (a + 6 + 1 + 4 * i) 7 (nI (V (59 + 10 * i + 7) + 1))) (a + 6 + 1 + 4 * i) 8 (nI w')) a (croV V i f d s) := fun w' hw' hb' => by
      refine hA.mot W hi6 (fun k hk => by rw [u2_k (by omega), u2_k (by omega), u2_k (by omega), u2_k (by omega)]) hV (cro_MR (w' := w') W hm hi6 hf h4 (fun j h1 h2 => ?_) ?_ ?_ (fun k hk => ?_) ?_ (fun k hk => ?_) ?_ u2_s hw' (fun w2' e1 e2 g hg => ?_))
      · rw [u2_j h2, u2_j h1, u2_k (by omega), u2_k (by omega)]
      · rw [u2_j (by decide), u2_s]
      · rw [u2_k (by omega), u2_k (by omega), u2_k (by omega), u2_k (by omega)]
      · rw [u2_k (by omega), u2_k (by omega), u2_k (by omega), u2_j hk]
      · rw [u2_k (by omega), u2_k (by omega), u2_k (by omega), u2_s]
      · rw [u2_k (by omega), u2_k (by omega), u2_j hk, u2_k (by omega)]
      · rw [u2_k (by omega), u2_k (by omega), u2_s]
      · rw [w2] at e1
        have e3 : w = w2' := (nI_eq (by omega) (by omega)).mp e1
        subst e3
        exact hb' g hg
    rcases (by omega : s = 0 ∨ s = 1) with es | es
    · have hA' := gen w w1 (fun g hg => ⟨.inl, fun h => h.elim id (fun h => by omega)⟩)
      refine ⟨_, ?_, hA', fun k hk => by rw [u2_k (by omega), u2_k (by omega), u2_k (by omega), u2_k (by omega)]⟩
      unfold F_X2_hear F_X6_addCroak
      have hsm := C_sumOfSide (hA'.mo i hi6) W1 (by omega : 13 ≤ n) hi6 (by omega : s < 65536)
      subst es
      simp (disch := first | omega | exact hB _) only [hm.cn, u2_k, u2_j, u2_s, hA.we, w2, n_or, Nat.or_zero, hl', hsm, ob_s, ob2_s, chk_t, lt_s', litI, n_add, n_mul, n_sub, inb_n, ix_n, n_le, n_lt, n_eq, n_bit, n_m1_lt, n_m1_eq, n_m1_m, n_ne_m, n_m_ne, n_m_lt0, n_0_le_m, if_true, if_false, eq_self, not_true_eq_false, not_false_eq_true, isB_0, isB_1, Bool.false_eq_true, true_and, and_true, false_and, and_false, and_self, Nat.one_ne_zero, Nat.zero_ne_one, reduceIte]
    · have hA' := gen (w ||| 2 ^ f) (or_lt12 w1 hf12) (fun g hg => by
        rw [tb_or]
        by_cases e : g = f <;> simp [e, es])
      refine ⟨_, ?_, hA', fun k hk => by rw [u2_k (by omega), u2_k (by omega), u2_k (by omega), u2_k (by omega)]⟩
      unfold F_X2_hear F_X6_addCroak
      have hsm := C_sumOfSide (hA'.mo i hi6) W1 (by omega : 13 ≤ n) hi6 (by omega : s < 65536)
      subst es
      simp (disch := first | omega | exact hB _) only [hm.cn, u2_k, u2_j, u2_s, hA.we, n10, w2, n_shl, n_or, hl', hsm, ob_s, ob2_s, chk_t, lt_s', litI, n_add, n_mul, n_sub, inb_n, ix_n, n_le, n_lt, n_eq, n_bit, n_m1_lt, n_m1_eq, n_m1_m, n_ne_m, n_m_ne, n_m_lt0, n_0_le_m, if_true, if_false, eq_self, not_true_eq_false, not_false_eq_true, isB_0, isB_1, Bool.false_eq_true, true_and, and_true, false_and, and_false, and_self, Nat.one_ne_zero, Nat.zero_ne_one, reduceIte]
end CRO
