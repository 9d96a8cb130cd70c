/-! ===== PURE: taking a frog off a list ===== -/
/-- the place p of the list of the motion i taken out, x places moved so far -/
def takV (V : Nat → Nat) (i p x : Nat) : Nat → Nat := fun j => if j = 59 + 10 * i + 5 then V j - 1 else if 119 + 12 * i + p ≤ j ∧ j < 119 + 12 * i + x then V (j + 1) else V j
def remV (V : Nat → Nat) (i p : Nat) : Nat → Nat := sV (takV V i p (V (59 + 10 * i + 5) - 1)) (119 + 12 * i + (V (59 + 10 * i + 5) - 1)) 0
theorem takV_n {V : Nat → Nat} {i p x j : Nat} (h1 : j ≠ 59 + 10 * i + 5) (h2 : ¬ (119 + 12 * i + p ≤ j ∧ j < 119 + 12 * i + x)) : takV V i p x j = V j := by
  unfold takV; rw [if_neg h1, if_neg h2]
theorem takV_5 {V : Nat → Nat} {i p x : Nat} : takV V i p x (59 + 10 * i + 5) = V (59 + 10 * i + 5) - 1 := if_pos rfl
theorem takV_m {V : Nat → Nat} {i p x j : Nat} (h1 : j ≠ 59 + 10 * i + 5) (h2 : 119 + 12 * i + p ≤ j ∧ j < 119 + 12 * i + x) : takV V i p x j = V (j + 1) := by
  unfold takV; rw [if_neg h1, if_pos h2]
section TAK
variable {n a c : Nat} {M Mm : Mem} {V : Nat → Nat}
theorem remV_5 {i p : Nat} (hi : i < 6) : remV V i p (59 + 10 * i + 5) = V (59 + 10 * i + 5) - 1 := by
  unfold remV; rw [sV_n (by omega), takV_5]
theorem remV_o (W : WF c V) {i p : Nat} (hi : i < 6) (hp : p < V (59 + 10 * i + 5)) {j : Nat} (h5 : j ≠ 59 + 10 * i + 5) (h : ¬ (119 + 12 * i ≤ j ∧ j < 131 + 12 * i)) : remV V i p j = V j := by
  have hl := W.li hi
  unfold remV
  rw [sV_n (by omega), takV_n h5 (by omega)]
theorem remV_L (W : WF c V) {i p k : Nat} (hi : i < 6) (hk : k < V (59 + 10 * i + 5) - 1) : remV V i p (119 + 12 * i + k) = V (119 + 12 * i + if k < p then k else k + 1) := by
  have hl := W.li hi
  unfold remV
  rw [sV_n (by omega)]
  by_cases h : k < p
  · rw [takV_n (by omega) (by omega), if_pos h]
  · rw [takV_m (by omega) (by omega), if_neg h]
    rfl
theorem RR.any {V' : Nat → Nat} {Mm' : Mem} (hR : RR Mm V) {k x : Nat} (h1 : Mm' = up2 Mm 1 k (nI x)) (h2 : ∀ j, V' j = sV V k x j) : RR Mm' V' := by
  intro j hj
  rw [h1, h2]
  exact hR.up j hj
theorem R_takes (hR : RR Mm V) (W : WF c V) (hn : 13 ≤ n) {i p : Nat} (hi : i < 6) (hp : p < V (59 + 10 * i + 5)) : ∃ Mm', F_X10_takes n (nI i) (nI p) Mm = some Mm' ∧ (∀ k, k ≠ 1 → Mm' k = Mm k) ∧ RR Mm' (remV V i p) := by
  have hB := W.b
  have hl := W.li hi
  unfold F_X10_takes
  simp (disch := first | omega | exact hB _) only [R_of, hR, ob_s, ob2_s, chk_t, lt_s', litI, n_add, n_mul, n_sub, inb_n, ix_n, n_le, n_lt, n_eq, n_bit, n_m1_lt, n_m1_eq, n_m1_m, n_ne_m, n_m_ne, n_m_lt0, n_0_le_m, if_true, if_false, eq_self, not_true_eq_false, not_false_eq_true, isB_0, isB_1, Bool.false_eq_true, true_and, and_true, false_and, and_false, and_self, Nat.one_ne_zero, Nat.zero_ne_one, reduceIte]
  refine loopI (fun k f x => F_X10_takes_L16 n k (nI i) (nI f) x) (fun f x => (∀ k, k ≠ 1 → x k = Mm k) ∧ RR x (takV V i p f)) (fun Mm' => (∀ k, k ≠ 1 → Mm' k = Mm k) ∧ RR Mm' (remV V i p)) p (V (59 + 10 * i + 5) - 1) (fun k x hx => ?_) (fun k f x hs hf hx => ?_) n (by omega) (by omega) (up2 Mm 1 (59 + 10 * i + 5) (nI (V (59 + 10 * i + 5) - 1))) ⟨fun k hk => by rw [u2_k hk], hR.any rfl (fun j => ?_)⟩
  · obtain ⟨h1, h2⟩ := hx
    refine ⟨up2 x 1 (119 + 12 * i + (V (59 + 10 * i + 5) - 1)) (nI 0), ?_, fun k hk => by rw [u2_k hk, h1 k hk], h2.up⟩
    simp only [F_X10_takes_L16]
    simp (disch := first | omega | exact hB _) only [R_of, R_listed, h2, takV_5, Nat.le_refl, ob_s, ob2_s, chk_t, lt_s', litI, n_add, n_mul, n_sub, inb_n, ix_n, n_le, n_lt, n_eq, n_bit, n_m1_lt, n_m1_eq, n_m1_m, n_ne_m, n_m_ne, n_m_lt0, n_0_le_m, if_true, if_false, eq_self, not_true_eq_false, not_false_eq_true, isB_0, isB_1, Bool.false_eq_true, true_and, and_true, false_and, and_false, and_self, Nat.one_ne_zero, Nat.zero_ne_one, reduceIte]
  · obtain ⟨h1, h2⟩ := hx
    have hle : ¬ V (59 + 10 * i + 5) - 1 ≤ f := by omega
    have hb2 := hB (119 + 12 * i + (f + 1))
    refine ⟨up2 x 1 (119 + 12 * i + f) (nI (V (119 + 12 * i + (f + 1)))), ⟨fun k hk => by rw [u2_k hk, h1 k hk], h2.any rfl (fun j => ?_)⟩, ?_⟩
    · by_cases e : j = 119 + 12 * i + f
      · subst e
        rw [takV_m (by omega) (by omega), sV_s]
        rfl
      · rw [sV_n e]
        unfold takV
        by_cases e2 : j = 59 + 10 * i + 5
        · rw [if_pos e2, if_pos e2]
        · rw [if_neg e2, if_neg e2]
          by_cases e3 : 119 + 12 * i + p ≤ j ∧ j < 119 + 12 * i + f
          · rw [if_pos e3, if_pos (by omega)]
          · rw [if_neg e3, if_neg (by omega)]
    · have e4 : takV V i p f (119 + 12 * i + (f + 1)) = V (119 + 12 * i + (f + 1)) := takV_n (by omega) (by omega)
      simp only [F_X10_takes_L16]
      simp (disch := first | omega | exact hB _) only [R_of, R_listed, h2, takV_5, hle, e4, ob_s, ob2_s, chk_t, lt_s', litI, n_add, n_mul, n_sub, inb_n, ix_n, n_le, n_lt, n_eq, n_bit, n_m1_lt, n_m1_eq, n_m1_m, n_ne_m, n_m_ne, n_m_lt0, n_0_le_m, if_true, if_false, eq_self, not_true_eq_false, not_false_eq_true, isB_0, isB_1, Bool.false_eq_true, true_and, and_true, false_and, and_false, and_self, Nat.one_ne_zero, Nat.zero_ne_one, reduceIte]
  · unfold takV sV
    by_cases e2 : j = 59 + 10 * i + 5
    · rw [if_pos e2, if_pos e2, e2]
    · rw [if_neg e2, if_neg e2, if_neg (by omega)]
theorem C_clear {i p mo : Nat} (hm : MR M mo V i) (W : WF c V) (hn : 14 ≤ n) (hi : i < 6) (hp : p < V (59 + 10 * i + 5)) : ∃ M', F_X6_clearPlace n mo (nI p) M = some M' ∧ (∀ k, k ≠ mo → k ≠ mo + 1 → M' k = M k) ∧ (∀ j, j ≠ 2 → M' mo j = M mo j) ∧ M' mo 2 = nI (V (59 + 10 * i + 5) - 1) ∧ ∀ k, k < V (59 + 10 * i + 5) - 1 → M' (mo + 1) k = nI (V (119 + 12 * i + if k < p then k else k + 1)) := by
  have hB := W.b
  have hl := W.li hi
  unfold F_X6_clearPlace
  simp (disch := first | omega | exact hB _) only [hm.ln, Nat.not_lt_zero, hp, ob_s, ob2_s, chk_t, lt_s', litI, n_add, n_mul, n_sub, inb_n, ix_n, n_le, n_lt, n_eq, n_bit, n_m1_lt, n_m1_eq, n_m1_m, n_ne_m, n_m_ne, n_m_lt0, n_0_le_m, if_true, if_false, eq_self, not_true_eq_false, not_false_eq_true, isB_0, isB_1, Bool.false_eq_true, true_and, and_true, false_and, and_false, and_self, Nat.one_ne_zero, Nat.zero_ne_one, reduceIte]
  refine loopI (fun k f x => F_X6_clearPlace_L17 n mo k (nI f) x) (fun f x => (∀ k, k ≠ mo → k ≠ mo + 1 → x k = M k) ∧ x mo = M mo ∧ ∀ k, k < V (59 + 10 * i + 5) → x (mo + 1) k = nI (V (119 + 12 * i + if p ≤ k ∧ k < f - 1 then k + 1 else k))) (fun M' => (∀ k, k ≠ mo → k ≠ mo + 1 → M' k = M k) ∧ (∀ j, j ≠ 2 → M' mo j = M mo j) ∧ M' mo 2 = nI (V (59 + 10 * i + 5) - 1) ∧ ∀ k, k < V (59 + 10 * i + 5) - 1 → M' (mo + 1) k = nI (V (119 + 12 * i + if k < p then k else k + 1))) (p + 1) (V (59 + 10 * i + 5)) (fun k x hx => ?_) (fun k f x hs hf hx => ?_) n (by omega) (by omega) M ⟨fun k _ _ => rfl, rfl, fun k hk => by rw [if_neg (by omega)]; exact hm.le k hk⟩
  · obtain ⟨h1, h2, h3⟩ := hx
    refine ⟨up2 x mo 2 (nI (V (59 + 10 * i + 5) - 1)), ?_, fun k hk hk2 => by rw [u2_k hk, h1 k hk hk2], fun j hj => by rw [u2_j hj, h2], u2_s, fun k hk => ?_⟩
    · simp only [F_X6_clearPlace_L17]
      simp (disch := first | omega | exact hB _) only [h2, hm.ln, Nat.le_refl, ob_s, ob2_s, chk_t, lt_s', litI, n_add, n_mul, n_sub, inb_n, ix_n, n_le, n_lt, n_eq, n_bit, n_m1_lt, n_m1_eq, n_m1_m, n_ne_m, n_m_ne, n_m_lt0, n_0_le_m, if_true, if_false, eq_self, not_true_eq_false, not_false_eq_true, isB_0, isB_1, Bool.false_eq_true, true_and, and_true, false_and, and_false, and_self, Nat.one_ne_zero, Nat.zero_ne_one, reduceIte]
    · rw [u2_k (by omega), h3 k (by omega)]
      by_cases e : k < p
      · rw [if_pos e, if_neg (by omega)]
      · rw [if_neg e, if_pos (by omega)]
  · obtain ⟨h1, h2, h3⟩ := hx
    have hle : ¬ V (59 + 10 * i + 5) ≤ f := by omega
    have e3 := h3 f hf
    rw [if_neg (by omega)] at e3
    refine ⟨up2 x (mo + 1) (f - 1) (nI (V (119 + 12 * i + f))), ⟨fun k hk hk2 => by rw [u2_k hk2, h1 k hk hk2], by rw [u2_k (by omega), h2], fun k hk => ?_⟩, ?_⟩
    · by_cases e : k = f - 1
      · subst e
        rw [u2_s, if_pos (by omega), show f - 1 + 1 = f by omega]
      · rw [u2_j e, h3 k hk]
        by_cases e2 : p ≤ k ∧ k < f - 1
        · rw [if_pos e2, if_pos (by omega)]
        · rw [if_neg e2, if_neg (by omega)]
    · simp only [F_X6_clearPlace_L17]
      simp (disch := first | omega | exact hB _) only [h2, hm.ln, hle, e3, ob_s, ob2_s, chk_t, lt_s', litI, n_add, n_mul, n_sub, inb_n, ix_n, n_le, n_lt, n_eq, n_bit, n_m1_lt, n_m1_eq, n_m1_m, n_ne_m, n_m_ne, n_m_lt0, n_0_le_m, if_true, if_false, eq_self, not_true_eq_false, not_false_eq_true, isB_0, isB_1, Bool.false_eq_true, true_and, and_true, false_and, and_false, and_self, Nat.one_ne_zero, Nat.zero_ne_one, reduceIte]
/-- what is left is right -/
theorem rem_WM (W : WF c V) {i p c' : Nat} (hi : i < 6) (hc : c ≤ c') (hp : p < V (59 + 10 * i + 5)) : WM c' (remV V i p) i := by
  obtain ⟨_, w1, w2, _, _, w5, _, _, w8, w9, _, _⟩ := W.mo hi
  refine WM.list W hi hc (remV_o W hi hp (by omega) (by omega)) (fun j _ h5 h6 => remV_o W hi hp h5 h6) (remV_5 hi) (by omega) (fun k hk => ?_) (fun k k' hk hk' => ?_)
  · rw [remV_L W hi hk]
    exact w8 _ (by split <;> omega)
  · rw [remV_L W hi hk', remV_L W hi (by omega)]
    exact w9 _ _ (by split <;> split <;> omega) (by split <;> omega)
theorem rem_MR {i p mo : Nat} (hm : MR M mo V i) (W : WF c V) (hi : i < 6) (hp : p < V (59 + 10 * i + 5)) {M' : Mem} (g1 : ∀ k, k ≠ mo → k ≠ mo + 1 → M' k = M k) (g2 : ∀ j, j ≠ 2 → M' mo j = M mo j) (g3 : M' mo 2 = nI (V (59 + 10 * i + 5) - 1)) (g4 : ∀ k, k < V (59 + 10 * i + 5) - 1 → M' (mo + 1) k = nI (V (119 + 12 * i + if k < p then k else k + 1))) : MR M' mo (remV V i p) i :=
  hm.list W hi (fun j _ h5 h6 => remV_o W hi hp h5 h6) (fun g hg => remV_o W hi hp (by have := W.F; omega) (by have := W.F; omega)) (remV_5 hi) g2 g3 (g1 _ (by omega) (by omega)) (g1 _ (by omega) (by omega)) (fun k hk => by rw [g4 k hk, remV_L W hi hk])
theorem rem_lt (W : WF c V) {i p : Nat} (hi : i < 6) : ∀ j, remV V i p j < 65536 := by
  refine sV_lt (fun j => ?_) (by omega)
  unfold takV
  have h1 := W.b6 j
  have h2 := W.b6 (j + 1)
  split
  · omega
  · split <;> omega
theorem s_strike (hR : RR Mm V) (W : WF c V) (hn : 14 ≤ n) (hA : AR M a V) (x1 x2 : Int32) :
    StpR a c [2, 5] 65536 V M Mm (F_X2_refusalToUnlist n a x1 x2) (F_X2_unlist n a x1 x2) (F_X10_strikes n x1 x2) := by
  have hB := W.b
  have hF := W.F
  have hP := W.M
  unfold StpR F_X2_refusalToUnlist F_X10_strikes
  rcases (Classical.em (isL x1 (V 2) ∧ isL x2 (V 0))).symm with h1 | ⟨⟨i, hi, rfl⟩, ⟨f, hf, rfl⟩⟩
  · obtain ⟨e, he, h2⟩ := C_pair_f (n := n) hA hB h1
    refine .inl ⟨e, by omega, by omega, by rcases h2 with rfl | rfl <;> decide, ?_, ?_⟩
    · rw [he]
      rcases h2 with rfl | rfl <;> rfl
    · simp (disch := first | omega | exact hB _) only [R_there_f hR hB h1, R_fail, ob_s, ob2_s, chk_t, lt_s', litI, n_add, n_mul, n_sub, inb_n, ix_n, n_le, n_lt, n_eq, n_bit, n_m1_lt, n_m1_eq, n_m1_m, n_ne_m, n_m_ne, n_m_lt0, n_0_le_m, if_true, if_false, eq_self, not_true_eq_false, not_false_eq_true, isB_0, isB_1, Bool.false_eq_true, true_and, and_true, false_and, and_false, and_self, Nat.one_ne_zero, Nat.zero_ne_one, reduceIte]
      rcases h2 with rfl | rfl <;> rfl
  have hi6 : i < 6 := by omega
  have hq := fst_le (fun k => decide (V (119 + 12 * i + k) = f)) (V (59 + 10 * i + 5))
  have hl := W.li hi6
  have hpl : plc V i f ≤ 12 := Nat.le_trans hq hl
  rcases (Decidable.em (plc V i f < V (59 + 10 * i + 5))).symm with h4 | h4
  · refine .inl ⟨21, by decide, by decide, by decide, ?_, ?_⟩
    · simp (disch := first | omega | exact hB _) only [C_pair_t hA hB hi hf, ck23, C_placeOf (n := n) (hA.mo i hi6) W (by omega) hi6 (f := f) (by omega), h4, ob_s, ob2_s, chk_t, lt_s', litI, n_add, n_mul, n_sub, inb_n, ix_n, n_le, n_lt, n_eq, n_bit, n_m1_lt, n_m1_eq, n_m1_m, n_ne_m, n_m_ne, n_m_lt0, n_0_le_m, if_true, if_false, eq_self, not_true_eq_false, not_false_eq_true, isB_0, isB_1, Bool.false_eq_true, true_and, and_true, false_and, and_false, and_self, Nat.one_ne_zero, Nat.zero_ne_one, reduceIte]
    · simp (disch := first | omega | exact hB _) only [R_there_t hR hB hi hf, n10, R_place hR W (by omega : 13 ≤ n) hi6 (f := f) (by omega), h4, R_fail, ob_s, ob2_s, chk_t, lt_s', litI, n_add, n_mul, n_sub, inb_n, ix_n, n_le, n_lt, n_eq, n_bit, n_m1_lt, n_m1_eq, n_m1_m, n_ne_m, n_m_ne, n_m_lt0, n_0_le_m, if_true, if_false, eq_self, not_true_eq_false, not_false_eq_true, isB_0, isB_1, Bool.false_eq_true, true_and, and_true, false_and, and_false, and_self, Nat.one_ne_zero, Nat.zero_ne_one, reduceIte]
      rfl
  obtain ⟨Mm', t1, t2, t3⟩ := R_takes hR W (by omega : 13 ≤ n) hi6 h4
  refine .inr ⟨?_, remV V i (plc V i f), V (59 + 10 * i + 5) - 1, Mm', by omega, ?_, t2, t3, ?_, ?_⟩
  · simp (disch := first | omega | exact hB _) only [C_pair_t hA hB hi hf, ck23, C_placeOf (n := n) (hA.mo i hi6) W (by omega) hi6 (f := f) (by omega), h4, ob_s, ob2_s, chk_t, lt_s', litI, n_add, n_mul, n_sub, inb_n, ix_n, n_le, n_lt, n_eq, n_bit, n_m1_lt, n_m1_eq, n_m1_m, n_ne_m, n_m_ne, n_m_lt0, n_0_le_m, if_true, if_false, eq_self, not_true_eq_false, not_false_eq_true, isB_0, isB_1, Bool.false_eq_true, true_and, and_true, false_and, and_false, and_self, Nat.one_ne_zero, Nat.zero_ne_one, reduceIte]
  · simp (disch := first | omega | exact hB _) only [R_there_t hR hB hi hf, n10, R_place hR W (by omega : 13 ≤ n) hi6 (f := f) (by omega), h4, Nat.zero_le, t1, R_of, t3, remV_5, ob_s, ob2_s, chk_t, lt_s', litI, n_add, n_mul, n_sub, inb_n, ix_n, n_le, n_lt, n_eq, n_bit, n_m1_lt, n_m1_eq, n_m1_m, n_ne_m, n_m_ne, n_m_lt0, n_0_le_m, if_true, if_false, eq_self, not_true_eq_false, not_false_eq_true, isB_0, isB_1, Bool.false_eq_true, true_and, and_true, false_and, and_false, and_self, Nat.one_ne_zero, Nat.zero_ne_one, reduceIte]
  · exact W.mot hi6 (by omega) (fun j hj => remV_o W hi6 h4 (by unfold inM at hj; omega) (by unfold inM at hj; omega)) (rem_lt W hi6) (rem_WM W hi6 (by omega) h4)
  · intro M0 hA
    obtain ⟨M', g0, g1, g2, g3, g4⟩ := C_clear (n := n) (hA.mo i hi6) W hn hi6 h4
    refine ⟨M', ?_, hA.mot W hi6 (fun k hk => g1 k (by omega) (by omega)) (fun j hj => remV_o W hi6 h4 (by unfold inM at hj; omega) (by unfold inM at hj; omega)) (rem_MR (hA.mo i hi6) W hi6 h4 g1 g2 g3 g4), fun k hk => g1 k (by omega) (by omega)⟩
    unfold F_X2_unlist
    simp (disch := first | omega | exact hB _) only [C_placeOf (n := n) (hA.mo i hi6) W (by omega) hi6 (f := f) (by omega), h4, g0, g3, ob_s, ob2_s, chk_t, lt_s', litI, n_add, n_mul, n_sub, inb_n, ix_n, n_le, n_lt, n_eq, n_bit, n_m1_lt, n_m1_eq, n_m1_m, n_ne_m, n_m_ne, n_m_lt0, n_0_le_m, if_true, if_false, eq_self, not_true_eq_false, not_false_eq_true, isB_0, isB_1, Bool.false_eq_true, true_and, and_true, false_and, and_false, and_self, Nat.one_ne_zero, Nat.zero_ne_one, reduceIte]
end TAK
