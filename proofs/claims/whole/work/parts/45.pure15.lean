/-! ===== PURE: orders and sums asked ===== -/
theorem n_subz {a b : Nat} (ha : a < 2147483648) (hb : b < 2147483648) : (nI a - nI b = nI 0) = (a = b) := by
  rw [← Int32.toInt_inj, Int32.toInt_sub, n_ti ha, n_ti hb, n_ti (by decide), Int.bmod_def]
  apply propext
  split <;> omega
theorem n_subp {a b : Nat} (ha : a < 2147483648) (hb : b < 2147483648) : (nI 0 < nI a - nI b) = (b < a) := by
  rw [Int32.lt_iff_toInt_lt, Int32.toInt_sub, n_ti ha, n_ti hb, n_ti (by decide), Int.bmod_def]
  apply propext
  split <;> omega
def rkB (V : Nat → Nat) (f g : Nat) : Nat := if V (41 + f) = V (41 + g) then (if V (17 + f) = V (17 + g) then (if g ≤ f then 0 else 1) else (if V (17 + f) ≤ V (17 + g) then 0 else 1)) else (if V (41 + f) ≤ V (41 + g) then 0 else 1)
def rkN (V : Nat → Nat) (g : Nat) : Nat := sm (fun f => rkB V f g) (V 0)
def bst (V : Nat → Nat) (i : Nat) : Nat → Nat
  | 0 => 0
  | m + 1 => if m = 0 then 0 else if stg V i m ≤ stg V i (bst V i m) then bst V i m else m
theorem bst_le (V : Nat → Nat) (i : Nat) : ∀ m, 0 < m → bst V i m < m
  | 0, h => absurd h (Nat.not_lt_zero _)
  | m + 1, _ => by
    unfold bst
    by_cases e : m = 0
    · rw [if_pos e]; omega
    · have := bst_le V i m (by omega)
      rw [if_neg e]
      split <;> omega
theorem bst_s {V : Nat → Nat} {i m : Nat} (h : 0 < m) : bst V i (m + 1) = if stg V i m ≤ stg V i (bst V i m) then bst V i m else m := by
  show (if m = 0 then 0 else _) = _
  rw [if_neg (by omega)]
section ORD
variable {n c : Nat} {T M Mm : Mem} {V : Nat → Nat}
theorem R_nextFrog (hR : RR Mm V) (W : WF c V) (hn : 13 ≤ n) {i q : Nat} (hi : i < V 2) (hq : q < V (59 + 10 * i + 5)) (hr : rkd V i 0 = q) : F_X10_nextFrog n (nI i) Mm = some (nI (V (119 + 12 * i + q)), up2 Mm 0 0 (nI 0)) := by
  have hB := W.b
  have hM := W.M
  have hl := W.li (i := i) (by omega)
  have h0 : ¬ V (59 + 10 * i + 5) = 0 := by omega
  have hi6 : i < 6 := by omega
  have h1 : ∀ M, F_X10_of n (nI i) (nI 5) M = some (nI (59 + 10 * i + 5)) := fun M => R_of i 5 M
  have hR' : RR (up2 Mm 0 0 (nI 0)) V := hR.th
  have hrk := R_ranked (n := n) hR' W hn hi6 (r := 0) (by omega)
  rw [hr, if_pos hq] at hrk
  have hls : ∀ M, F_X10_listed n (nI i) (nI q) M = some (nI (119 + 12 * i + q)) := fun M => R_listed i q M
  have b1 : 59 + 10 * i + 5 < 407 := by omega
  have b2 : 119 + 12 * i + q < 407 := by omega
  unfold F_X10_nextFrog
  rw [R_isMotion_t hR hB hi, ob_s, litN, if_neg (by rw [n10]; exact id), litN, h1, ob_s, inb_n b1 (by omega), chk_t, ix_n (by omega), hR _ b1, if_neg (by rw [n_eq (hB _) (by omega)]; exact h0), lt_s', u2_s, if_pos rfl, hrk, ob_s, hls, ob_s, inb_n b2 (by omega), chk_t, ix_n (by omega), u2_k (by omega), hR _ b2]
theorem sc_nextFrogByScan (hn : 2900 ≤ n) : SC_nextFrogByScan n Rel := by
  intro j T M Mm x1 hj h
  obtain ⟨V, hR, W, hA⟩ := h.core
  have hB := W.b
  have hM := W.M
  rcases (Classical.em (isL x1 (V 2))).symm with h1 | ⟨i, hi, rfl⟩
  · refine ⟨.inl 2, nI 0, up2 Mm 0 0 (nI 1), ?_, ?_, fun k hk => .inl (Sum.inl.inj hk).symm, ?_, no_r, h.thr hj⟩
    · unfold F_X9_nextFrogByScan
      rw [C_call0 hA W x1 h1]
      rfl
    · unfold F_X10_nextFrogByScan F_X10_nextFrog
      simp (disch := first | omega | exact hB _) only [R_isMotion_f hR hB h1, u2_s, n10, ob_s, ob2_s, chk_t, lt_s', litI, n_add, n_mul, n_sub, inb_n, ix_n, n_le, n_lt, n_eq, n_bit, n_m1_lt, n_m1_eq, n_m1_m, n_ne_m, n_m_ne, n_m_lt0, n_0_le_m, if_true, if_false, eq_self, not_true_eq_false, not_false_eq_true, isB_0, isB_1, Bool.false_eq_true, true_and, and_true, false_and, and_false, and_self, Nat.one_ne_zero, Nat.zero_ne_one, reduceIte]
    · rw [u2_s]; rfl
  by_cases h0 : V (59 + 10 * i + 5) = 0
  · refine ⟨.inl 5, nI 0, up2 Mm 0 0 (nI 2), ?_, ?_, fun k hk => .inr (Sum.inl.inj hk).symm, ?_, no_r, h.thr hj⟩
    · unfold F_X9_nextFrogByScan
      rw [C_call1 hA W hi, if_pos h0]
      rfl
    · have n20 : (nI 2 = nI 0) = False := by simp; decide
      unfold F_X10_nextFrogByScan F_X10_nextFrog
      simp (disch := first | omega | exact hB _) only [R_isMotion_t hR hB hi, n10, R_of, hR, h0, u2_s, ob_s, ob2_s, chk_t, lt_s', litI, n_add, n_mul, n_sub, inb_n, ix_n, n_le, n_lt, n_eq, n_bit, n_m1_lt, n_m1_eq, n_m1_m, n_ne_m, n_m_ne, n_m_lt0, n_0_le_m, if_true, if_false, eq_self, not_true_eq_false, not_false_eq_true, isB_0, isB_1, Bool.false_eq_true, true_and, and_true, false_and, and_false, and_self, Nat.one_ne_zero, Nat.zero_ne_one, reduceIte]
      rfl
    · rw [u2_s]; rfl
  have hm : MR M (8 + 4 * i) V i := hA.mo i (by omega)
  obtain ⟨q, hq0, hq, hrk⟩ := C_firstPlace (n := n) hA W (by omega) (i := i) (by omega) (by omega)
  have hl := W.li (i := i) (by omega)
  refine ⟨.inr (nI (V (119 + 12 * i + q))), nI (V (119 + 12 * i + q)), up2 Mm 0 0 (nI 0), ?_, ?_, no_l, ?_, fun w hw => (Sum.inr.inj hw).symm, h.thr hj⟩
  · unfold F_X9_nextFrogByScan
    rw [C_call1 hA W hi, if_neg h0]
    simp (disch := first | omega | exact hB _) only [refuse_0, obx_r, hq0, hm.le, ob_s, ob2_s, chk_t, lt_s', litI, n_add, n_mul, n_sub, inb_n, ix_n, n_le, n_lt, n_eq, n_bit, n_m1_lt, n_m1_eq, n_m1_m, n_ne_m, n_m_ne, n_m_lt0, n_0_le_m, if_true, if_false, eq_self, not_true_eq_false, not_false_eq_true, isB_0, isB_1, Bool.false_eq_true, true_and, and_true, false_and, and_false, and_self, Nat.one_ne_zero, Nat.zero_ne_one, reduceIte]
  · unfold F_X10_nextFrogByScan
    rw [R_nextFrog hR W (by omega) hi hq hrk]
    rfl
  · rw [u2_s]; rfl
theorem sc_frogsBefore (hn : 2900 ≤ n) : SC_frogsBefore n Rel := by
  intro j T M Mm x1 x2 hj h
  obtain ⟨V, hR, W, hA⟩ := h.core
  have hB := W.b
  have hF := W.F
  have hP := W.M
  rcases (Classical.em (isL x1 (V 2) ∧ isL x2 (V 0))).symm with h1 | ⟨⟨i, hi, rfl⟩, ⟨f, hf, rfl⟩⟩
  · obtain ⟨e, he, h2⟩ := C_pair_f (n := n) hA hB h1
    refine ⟨.inl 2, nI 0, up2 Mm 0 0 (nI 1), ?_, ?_, fun k hk => .inl (Sum.inl.inj hk).symm, ?_, no_r, h.thr hj⟩
    · unfold F_X9_frogsBefore F_X2_refusalToUnlist
      rw [he, ob_s]
      rcases h2 with rfl | rfl <;> rfl
    · unfold F_X10_frogsBefore
      simp (disch := first | omega | exact hB _) only [R_there_f hR hB h1, R_fail, ob_s, ob2_s, chk_t, lt_s', litI, n_add, n_mul, n_sub, inb_n, ix_n, n_le, n_lt, n_eq, n_bit, n_m1_lt, n_m1_eq, n_m1_m, n_ne_m, n_m_ne, n_m_lt0, n_0_le_m, if_true, if_false, eq_self, not_true_eq_false, not_false_eq_true, isB_0, isB_1, Bool.false_eq_true, true_and, and_true, false_and, and_false, and_self, Nat.one_ne_zero, Nat.zero_ne_one, reduceIte]
    · rw [u2_s]; rfl
  have hi6 : i < 6 := by omega
  have hm : MR M (8 + 4 * i) V i := hA.mo i hi6
  have hq := fst_le (fun k => decide (V (119 + 12 * i + k) = f)) (V (59 + 10 * i + 5))
  have hl := W.li hi6
  have hpl : plc V i f ≤ 12 := Nat.le_trans hq hl
  rcases (Decidable.em (plc V i f < V (59 + 10 * i + 5))).symm with h4 | h4
  · refine ⟨.inl 5, nI 0, up2 Mm 0 0 (nI 2), ?_, ?_, fun k hk => .inr (Sum.inl.inj hk).symm, ?_, no_r, h.thr hj⟩
    · unfold F_X9_frogsBefore F_X2_refusalToUnlist
      simp (disch := first | omega | exact hB _) only [C_pair_t hA hB hi hf, ck23, C_placeOf (n := n) (hA.mo i hi6) W (by omega) hi6 (f := f) (by omega), h4, ob_s, ob2_s, chk_t, lt_s', litI, n_add, n_mul, n_sub, inb_n, ix_n, n_le, n_lt, n_eq, n_bit, n_m1_lt, n_m1_eq, n_m1_m, n_ne_m, n_m_ne, n_m_lt0, n_0_le_m, if_true, if_false, eq_self, not_true_eq_false, not_false_eq_true, isB_0, isB_1, Bool.false_eq_true, true_and, and_true, false_and, and_false, and_self, Nat.one_ne_zero, Nat.zero_ne_one, reduceIte]
      rfl
    · unfold F_X10_frogsBefore
      simp (disch := first | omega | exact hB _) only [R_there_t hR hB hi hf, n10, R_place hR W (by omega : 13 ≤ n) hi6 (f := f) (by omega), h4, u2_s, ob_s, ob2_s, chk_t, lt_s', litI, n_add, n_mul, n_sub, inb_n, ix_n, n_le, n_lt, n_eq, n_bit, n_m1_lt, n_m1_eq, n_m1_m, n_ne_m, n_m_ne, n_m_lt0, n_0_le_m, if_true, if_false, eq_self, not_true_eq_false, not_false_eq_true, isB_0, isB_1, Bool.false_eq_true, true_and, and_true, false_and, and_false, and_self, Nat.one_ne_zero, Nat.zero_ne_one, reduceIte]
      rfl
    · rw [u2_s]; rfl
  refine ⟨.inr (nI (ahN V i (plc V i f))), nI (ahN V i (plc V i f)), up2 Mm 0 0 (nI 0), ?_, ?_, no_l, ?_, fun w hw => (Sum.inr.inj hw).symm, h.thr hj⟩
  · unfold F_X9_frogsBefore F_X2_refusalToUnlist
    simp (disch := first | omega | exact hB _) only [C_pair_t hA hB hi hf, ck23, C_placeOf (n := n) (hA.mo i hi6) W (by omega) hi6 (f := f) (by omega), h4, refuse_0, obx_r, C_placeOf (n := n) hm W (by omega) hi6 (f := f) (by omega), ob_s, ob2_s, chk_t, lt_s', litI, n_add, n_mul, n_sub, inb_n, ix_n, n_le, n_lt, n_eq, n_bit, n_m1_lt, n_m1_eq, n_m1_m, n_ne_m, n_m_ne, n_m_lt0, n_0_le_m, if_true, if_false, eq_self, not_true_eq_false, not_false_eq_true, isB_0, isB_1, Bool.false_eq_true, true_and, and_true, false_and, and_false, and_self, Nat.one_ne_zero, Nat.zero_ne_one, reduceIte]
    rw [ahN_ky W hi6 h4]
    refine loopS (fun k x => F_X9_frogsBefore_L35 n (nI i) M k (nI (plc V i f)) (nI (sm (fun x => if ky V i x < ky V i (plc V i f) then 1 else 0) x)) (nI x)) (V (59 + 10 * i + 5)) _ (fun k => ?_) (fun k x hx => ?_) n (by omega)
    · simp only [F_X9_frogsBefore_L35]
      simp (disch := first | omega | exact hB _) only [hm.ln, Nat.le_refl, ob_s, ob2_s, chk_t, lt_s', litI, n_add, n_mul, n_sub, inb_n, ix_n, n_le, n_lt, n_eq, n_bit, n_m1_lt, n_m1_eq, n_m1_m, n_ne_m, n_m_ne, n_m_lt0, n_0_le_m, if_true, if_false, eq_self, not_true_eq_false, not_false_eq_true, isB_0, isB_1, Bool.false_eq_true, true_and, and_true, false_and, and_false, and_self, Nat.one_ne_zero, Nat.zero_ne_one, reduceIte]
    · have hle : ¬ V (59 + 10 * i + 5) ≤ x := by omega
      have hcb := C_before (n := n) hA W hi6 hx h4
      simp only [F_X9_frogsBefore_L35]
      simp (disch := first | omega | exact hB _) only [hm.ln, hle, sm_s, ob_s, ob2_s, chk_t, lt_s', litI, n_add, n_mul, n_sub, inb_n, ix_n, n_le, n_lt, n_eq, n_bit, n_m1_lt, n_m1_eq, n_m1_m, n_ne_m, n_m_ne, n_m_lt0, n_0_le_m, if_true, if_false, eq_self, not_true_eq_false, not_false_eq_true, isB_0, isB_1, Bool.false_eq_true, true_and, and_true, false_and, and_false, and_self, Nat.one_ne_zero, Nat.zero_ne_one, reduceIte]
      have hcb2 : F_X2_isCalledBefore n 1 (8 + 4 * i) (nI x) (nI (plc V i f)) M = some (if ky V i x < ky V i (plc V i f) then nI 1 else nI 0) := hcb
      by_cases e : ky V i x < ky V i (plc V i f)
      · simp (disch := first | omega | exact hB _) only [hcb2, e, n10, ob_s, ob2_s, chk_t, lt_s', litI, n_add, n_mul, n_sub, inb_n, ix_n, n_le, n_lt, n_eq, n_bit, n_m1_lt, n_m1_eq, n_m1_m, n_ne_m, n_m_ne, n_m_lt0, n_0_le_m, if_true, if_false, eq_self, not_true_eq_false, not_false_eq_true, isB_0, isB_1, Bool.false_eq_true, true_and, and_true, false_and, and_false, and_self, Nat.one_ne_zero, Nat.zero_ne_one, reduceIte]
      · simp (disch := first | omega | exact hB _) only [hcb2, e, Nat.add_zero, ob_s, ob2_s, chk_t, lt_s', litI, n_add, n_mul, n_sub, inb_n, ix_n, n_le, n_lt, n_eq, n_bit, n_m1_lt, n_m1_eq, n_m1_m, n_ne_m, n_m_ne, n_m_lt0, n_0_le_m, if_true, if_false, eq_self, not_true_eq_false, not_false_eq_true, isB_0, isB_1, Bool.false_eq_true, true_and, and_true, false_and, and_false, and_self, Nat.one_ne_zero, Nat.zero_ne_one, reduceIte]
  · unfold F_X10_frogsBefore
    simp (disch := first | omega | exact hB _) only [R_there_t hR hB hi hf, n10, R_place hR W (by omega : 13 ≤ n) hi6 (f := f) (by omega), h4, u2_s, Nat.zero_le, R_ahead (hR.th (x := nI 0)) W (by omega : 13 ≤ n) hi6 h4, ob_s, ob2_s, chk_t, lt_s', litI, n_add, n_mul, n_sub, inb_n, ix_n, n_le, n_lt, n_eq, n_bit, n_m1_lt, n_m1_eq, n_m1_m, n_ne_m, n_m_ne, n_m_lt0, n_0_le_m, if_true, if_false, eq_self, not_true_eq_false, not_false_eq_true, isB_0, isB_1, Bool.false_eq_true, true_and, and_true, false_and, and_false, and_self, Nat.one_ne_zero, Nat.zero_ne_one, reduceIte]
  · rw [u2_s]; rfl
theorem rkN_le (W : WF c V) (g : Nat) : rkN V g ≤ 12 := by
  have q := sm_le (g := fun f => rkB V f g) (B := 1) (n := V 0) (fun f hf => by unfold rkB; (repeat' split) <;> omega)
  have := W.F
  unfold rkN
  omega
theorem C_rank (hA : AR M 1 V) (W : WF c V) (hn : 13 ≤ n) {g : Nat} (hg : g < V 0) : F_X2_countRankedBefore n 1 (nI g) M = some (nI (rkN V g)) := by
  have hB := W.b
  have hF := W.F
  have we : ∀ f, f < 12 → M 3 f = nI (V (17 + f)) := hA.we
  have sk : ∀ f, f < 12 → M 5 f = nI (V (41 + f)) := hA.sk
  unfold F_X2_countRankedBefore
  refine loopS (fun k f => F_X2_countRankedBefore_L4 n 1 M k (nI g) (nI (sm (fun f => rkB V f g) f)) (nI f)) (V 0) _ (fun k => ?_) (fun k f hf => ?_) n (by omega)
  · simp only [F_X2_countRankedBefore_L4]
    simp (disch := first | omega | exact hB _) only [hA.F, Nat.le_refl, ob_s, ob2_s, chk_t, lt_s', litI, n_add, n_mul, n_sub, inb_n, ix_n, n_le, n_lt, n_eq, n_bit, n_m1_lt, n_m1_eq, n_m1_m, n_ne_m, n_m_ne, n_m_lt0, n_0_le_m, if_true, if_false, eq_self, not_true_eq_false, not_false_eq_true, isB_0, isB_1, Bool.false_eq_true, true_and, and_true, false_and, and_false, and_self, Nat.one_ne_zero, Nat.zero_ne_one, reduceIte]
    rfl
  · have h : ¬ V 0 ≤ f := by omega
    simp only [F_X2_countRankedBefore_L4, F_X2_isRankedBefore, rkB]
    simp (disch := first | omega | exact hB _) only [hA.F, h, sm_s, we, sk, ob_s, ob2_s, chk_t, lt_s', litI, n_add, n_mul, n_sub, inb_n, ix_n, n_le, n_lt, n_eq, n_bit, n_m1_lt, n_m1_eq, n_m1_m, n_ne_m, n_m_ne, n_m_lt0, n_0_le_m, if_true, if_false, eq_self, not_true_eq_false, not_false_eq_true, isB_0, isB_1, Bool.false_eq_true, true_and, and_true, false_and, and_false, and_self, Nat.one_ne_zero, Nat.zero_ne_one, reduceIte]
    by_cases e1 : V (41 + f) = V (41 + g)
    · by_cases e2 : V (17 + f) = V (17 + g)
      · by_cases e3 : g ≤ f
        · simp (disch := first | omega | exact hB _) only [e1, e2, e3, Nat.add_zero, ob_s, ob2_s, chk_t, lt_s', litI, n_add, n_mul, n_sub, inb_n, ix_n, n_le, n_lt, n_eq, n_bit, n_m1_lt, n_m1_eq, n_m1_m, n_ne_m, n_m_ne, n_m_lt0, n_0_le_m, if_true, if_false, eq_self, not_true_eq_false, not_false_eq_true, isB_0, isB_1, Bool.false_eq_true, true_and, and_true, false_and, and_false, and_self, Nat.one_ne_zero, Nat.zero_ne_one, reduceIte]
        · simp (disch := first | omega | exact hB _) only [e1, e2, e3, n10, ob_s, ob2_s, chk_t, lt_s', litI, n_add, n_mul, n_sub, inb_n, ix_n, n_le, n_lt, n_eq, n_bit, n_m1_lt, n_m1_eq, n_m1_m, n_ne_m, n_m_ne, n_m_lt0, n_0_le_m, if_true, if_false, eq_self, not_true_eq_false, not_false_eq_true, isB_0, isB_1, Bool.false_eq_true, true_and, and_true, false_and, and_false, and_self, Nat.one_ne_zero, Nat.zero_ne_one, reduceIte]
      · by_cases e3 : V (17 + f) ≤ V (17 + g)
        · simp (disch := first | omega | exact hB _) only [e1, e2, e3, Nat.add_zero, ob_s, ob2_s, chk_t, lt_s', litI, n_add, n_mul, n_sub, inb_n, ix_n, n_le, n_lt, n_eq, n_bit, n_m1_lt, n_m1_eq, n_m1_m, n_ne_m, n_m_ne, n_m_lt0, n_0_le_m, if_true, if_false, eq_self, not_true_eq_false, not_false_eq_true, isB_0, isB_1, Bool.false_eq_true, true_and, and_true, false_and, and_false, and_self, Nat.one_ne_zero, Nat.zero_ne_one, reduceIte]
        · simp (disch := first | omega | exact hB _) only [e1, e2, e3, n10, ob_s, ob2_s, chk_t, lt_s', litI, n_add, n_mul, n_sub, inb_n, ix_n, n_le, n_lt, n_eq, n_bit, n_m1_lt, n_m1_eq, n_m1_m, n_ne_m, n_m_ne, n_m_lt0, n_0_le_m, if_true, if_false, eq_self, not_true_eq_false, not_false_eq_true, isB_0, isB_1, Bool.false_eq_true, true_and, and_true, false_and, and_false, and_self, Nat.one_ne_zero, Nat.zero_ne_one, reduceIte]
    · by_cases e3 : V (41 + f) ≤ V (41 + g)
      · simp (disch := first | omega | exact hB _) only [e1, e3, Nat.add_zero, ob_s, ob2_s, chk_t, lt_s', litI, n_add, n_mul, n_sub, inb_n, ix_n, n_le, n_lt, n_eq, n_bit, n_m1_lt, n_m1_eq, n_m1_m, n_ne_m, n_m_ne, n_m_lt0, n_0_le_m, if_true, if_false, eq_self, not_true_eq_false, not_false_eq_true, isB_0, isB_1, Bool.false_eq_true, true_and, and_true, false_and, and_false, and_self, Nat.one_ne_zero, Nat.zero_ne_one, reduceIte]
      · simp (disch := first | omega | exact hB _) only [e1, e3, n10, ob_s, ob2_s, chk_t, lt_s', litI, n_add, n_mul, n_sub, inb_n, ix_n, n_le, n_lt, n_eq, n_bit, n_m1_lt, n_m1_eq, n_m1_m, n_ne_m, n_m_ne, n_m_lt0, n_0_le_m, if_true, if_false, eq_self, not_true_eq_false, not_false_eq_true, isB_0, isB_1, Bool.false_eq_true, true_and, and_true, false_and, and_false, and_self, Nat.one_ne_zero, Nat.zero_ne_one, reduceIte]
theorem R_rank (hR : RR Mm V) (W : WF c V) (hn : 13 ≤ n) {g : Nat} (hg : g < V 0) (x1 : Int32) (c7 : Int32 → Int32 → Mem → Option (Int32 × Mem)) : F_X10_frogAtRank_L22 n c7 n x1 (nI g) 0 0 Mm = if nI (rkN V g) = x1 then some (nI g, Mm) else c7 x1 (nI (g + 1)) Mm := by
  have hB := W.b
  have hF := W.F
  refine loopS (fun k f => F_X10_frogAtRank_L22 n c7 k x1 (nI g) (nI (sm (fun f => rkB V f g) f)) (nI f) Mm) (V 0) _ (fun k => ?_) (fun k f hf => ?_) n (by omega)
  · simp only [F_X10_frogAtRank_L22]
    simp (disch := first | omega | exact hB _) only [hR, Nat.le_refl, ob_s, ob2_s, chk_t, lt_s', litI, n_add, n_mul, n_sub, inb_n, ix_n, n_le, n_lt, n_eq, n_bit, n_m1_lt, n_m1_eq, n_m1_m, n_ne_m, n_m_ne, n_m_lt0, n_0_le_m, if_true, if_false, eq_self, not_true_eq_false, not_false_eq_true, isB_0, isB_1, Bool.false_eq_true, true_and, and_true, false_and, and_false, and_self, Nat.one_ne_zero, Nat.zero_ne_one, reduceIte]
    rfl
  · have h : ¬ V 0 ≤ f := by omega
    simp only [F_X10_frogAtRank_L22, rkB]
    simp (disch := first | omega | exact hB _) only [hR, h, sm_s, n_subz, n_subp, ob_s, ob2_s, chk_t, lt_s', litI, n_add, n_mul, n_sub, inb_n, ix_n, n_le, n_lt, n_eq, n_bit, n_m1_lt, n_m1_eq, n_m1_m, n_ne_m, n_m_ne, n_m_lt0, n_0_le_m, if_true, if_false, eq_self, not_true_eq_false, not_false_eq_true, isB_0, isB_1, Bool.false_eq_true, true_and, and_true, false_and, and_false, and_self, Nat.one_ne_zero, Nat.zero_ne_one, reduceIte]
    by_cases e1 : V (41 + f) = V (41 + g)
    · by_cases e2 : V (17 + f) = V (17 + g)
      · by_cases e3 : g ≤ f
        · simp (disch := first | omega | exact hB _) only [e1, e2, e3, Nat.add_zero, Nat.lt_irrefl, ob_s, ob2_s, chk_t, lt_s', litI, n_add, n_mul, n_sub, inb_n, ix_n, n_le, n_lt, n_eq, n_bit, n_m1_lt, n_m1_eq, n_m1_m, n_ne_m, n_m_ne, n_m_lt0, n_0_le_m, if_true, if_false, eq_self, not_true_eq_false, not_false_eq_true, isB_0, isB_1, Bool.false_eq_true, true_and, and_true, false_and, and_false, and_self, Nat.one_ne_zero, Nat.zero_ne_one, reduceIte]
        · simp (disch := first | omega | exact hB _) only [e1, e2, e3, Nat.lt_irrefl, ob_s, ob2_s, chk_t, lt_s', litI, n_add, n_mul, n_sub, inb_n, ix_n, n_le, n_lt, n_eq, n_bit, n_m1_lt, n_m1_eq, n_m1_m, n_ne_m, n_m_ne, n_m_lt0, n_0_le_m, if_true, if_false, eq_self, not_true_eq_false, not_false_eq_true, isB_0, isB_1, Bool.false_eq_true, true_and, and_true, false_and, and_false, and_self, Nat.one_ne_zero, Nat.zero_ne_one, reduceIte]
      · by_cases e3 : V (17 + f) ≤ V (17 + g)
        · have e4 : ¬ V (17 + g) < V (17 + f) := by omega
          simp (disch := first | omega | exact hB _) only [e1, e2, e3, e4, Nat.add_zero, ob_s, ob2_s, chk_t, lt_s', litI, n_add, n_mul, n_sub, inb_n, ix_n, n_le, n_lt, n_eq, n_bit, n_m1_lt, n_m1_eq, n_m1_m, n_ne_m, n_m_ne, n_m_lt0, n_0_le_m, if_true, if_false, eq_self, not_true_eq_false, not_false_eq_true, isB_0, isB_1, Bool.false_eq_true, true_and, and_true, false_and, and_false, and_self, Nat.one_ne_zero, Nat.zero_ne_one, reduceIte]
        · have e4 : V (17 + g) < V (17 + f) := by omega
          simp (disch := first | omega | exact hB _) only [e1, e2, e3, e4, ob_s, ob2_s, chk_t, lt_s', litI, n_add, n_mul, n_sub, inb_n, ix_n, n_le, n_lt, n_eq, n_bit, n_m1_lt, n_m1_eq, n_m1_m, n_ne_m, n_m_ne, n_m_lt0, n_0_le_m, if_true, if_false, eq_self, not_true_eq_false, not_false_eq_true, isB_0, isB_1, Bool.false_eq_true, true_and, and_true, false_and, and_false, and_self, Nat.one_ne_zero, Nat.zero_ne_one, reduceIte]
    · by_cases e3 : V (41 + f) ≤ V (41 + g)
      · have e4 : ¬ V (41 + g) < V (41 + f) := by omega
        simp (disch := first | omega | exact hB _) only [e1, e3, e4, Nat.add_zero, ob_s, ob2_s, chk_t, lt_s', litI, n_add, n_mul, n_sub, inb_n, ix_n, n_le, n_lt, n_eq, n_bit, n_m1_lt, n_m1_eq, n_m1_m, n_ne_m, n_m_ne, n_m_lt0, n_0_le_m, if_true, if_false, eq_self, not_true_eq_false, not_false_eq_true, isB_0, isB_1, Bool.false_eq_true, true_and, and_true, false_and, and_false, and_self, Nat.one_ne_zero, Nat.zero_ne_one, reduceIte]
      · have e4 : V (41 + g) < V (41 + f) := by omega
        simp (disch := first | omega | exact hB _) only [e1, e3, e4, ob_s, ob2_s, chk_t, lt_s', litI, n_add, n_mul, n_sub, inb_n, ix_n, n_le, n_lt, n_eq, n_bit, n_m1_lt, n_m1_eq, n_m1_m, n_ne_m, n_m_ne, n_m_lt0, n_0_le_m, if_true, if_false, eq_self, not_true_eq_false, not_false_eq_true, isB_0, isB_1, Bool.false_eq_true, true_and, and_true, false_and, and_false, and_self, Nat.one_ne_zero, Nat.zero_ne_one, reduceIte]
theorem sc_frogAtRank (hn : 2900 ≤ n) : SC_frogAtRank n Rel := by
  intro j T M Mm x1 hj h
  obtain ⟨V, hR, W, hA⟩ := h.core
  have hB := W.b
  have hF := W.F
  have hR' : RR (up2 Mm 0 0 (nI 0)) V := hR.th
  have hq := fst_le (fun g => decide (nI (rkN V g) = x1)) (V 0)
  have hc : ∀ r, (∀ k, F_X9_frogAtRank_L2 n M (k + 1) x1 (nI (fst (fun g => decide (nI (rkN V g) = x1)) (V 0))) = r) → F_X9_frogAtRank n x1 M = r := fun r h0 => by
    unfold F_X9_frogAtRank
    refine loopS (fun k g => F_X9_frogAtRank_L2 n M k x1 (nI g)) _ r h0 (fun k g hg => ?_) n (by omega)
    have h2 : ¬ nI (rkN V g) = x1 := of_decide_eq_false (fst_lo _ _ g hg)
    have h3 : ¬ V 0 ≤ g := by omega
    simp only [F_X9_frogAtRank_L2]
    simp (disch := first | omega | exact hB _) only [hA.F, h3, C_rank hA W (by omega : 13 ≤ n) (by omega : g < V 0), h2, ob_s, ob2_s, chk_t, lt_s', litI, n_add, n_mul, n_sub, inb_n, ix_n, n_le, n_lt, n_eq, n_bit, n_m1_lt, n_m1_eq, n_m1_m, n_ne_m, n_m_ne, n_m_lt0, n_0_le_m, if_true, if_false, eq_self, not_true_eq_false, not_false_eq_true, isB_0, isB_1, Bool.false_eq_true, true_and, and_true, false_and, and_false, and_self, Nat.one_ne_zero, Nat.zero_ne_one, reduceIte]
  have hr : ∀ r, (∀ k, F_X10_frogAtRank_L7 n (k + 1) x1 (nI (fst (fun g => decide (nI (rkN V g) = x1)) (V 0))) (up2 Mm 0 0 (nI 0)) = r) → F_X10_frogAtRank n x1 Mm = r := fun r h0 => by
    unfold F_X10_frogAtRank
    rw [lt_s', litN]
    refine loopS (fun k g => F_X10_frogAtRank_L7 n k x1 (nI g) (up2 Mm 0 0 (nI 0))) _ r h0 (fun k g hg => ?_) n (by omega)
    have h2 : ¬ nI (rkN V g) = x1 := of_decide_eq_false (fst_lo _ _ g hg)
    have h3 : ¬ V 0 ≤ g := by omega
    simp only [F_X10_frogAtRank_L7]
    rw [R_rank hR' W (by omega) (by omega : g < V 0), if_neg h2]
    simp (disch := first | omega | exact hB _) only [hR', h3, ob_s, ob2_s, chk_t, lt_s', litI, n_add, n_mul, n_sub, inb_n, ix_n, n_le, n_lt, n_eq, n_bit, n_m1_lt, n_m1_eq, n_m1_m, n_ne_m, n_m_ne, n_m_lt0, n_0_le_m, if_true, if_false, eq_self, not_true_eq_false, not_false_eq_true, isB_0, isB_1, Bool.false_eq_true, true_and, and_true, false_and, and_false, and_self, Nat.one_ne_zero, Nat.zero_ne_one, reduceIte]
  by_cases hlt : fst (fun g => decide (nI (rkN V g) = x1)) (V 0) < V 0
  · have h2 : nI (rkN V (fst (fun g => decide (nI (rkN V g) = x1)) (V 0))) = x1 := of_decide_eq_true (fst_at _ _ hlt)
    have h3 : ¬ V 0 ≤ fst (fun g => decide (nI (rkN V g) = x1)) (V 0) := by omega
    refine ⟨.inr (nI (fst (fun g => decide (nI (rkN V g) = x1)) (V 0))), nI (fst (fun g => decide (nI (rkN V g) = x1)) (V 0)), up2 Mm 0 0 (nI 0), hc _ (fun k => ?_), hr _ (fun k => ?_), no_l, ?_, fun w hw => (Sum.inr.inj hw).symm, h.thr hj⟩
    · simp only [F_X9_frogAtRank_L2]
      simp (disch := first | omega | exact hB _) only [hA.F, h3, C_rank hA W (by omega : 13 ≤ n) hlt, ob_s, ob2_s, chk_t, lt_s', litI, n_add, n_mul, n_sub, inb_n, ix_n, n_le, n_lt, n_eq, n_bit, n_m1_lt, n_m1_eq, n_m1_m, n_ne_m, n_m_ne, n_m_lt0, n_0_le_m, if_true, if_false, eq_self, not_true_eq_false, not_false_eq_true, isB_0, isB_1, Bool.false_eq_true, true_and, and_true, false_and, and_false, and_self, Nat.one_ne_zero, Nat.zero_ne_one, reduceIte]
      rw [if_pos h2]
    · simp only [F_X10_frogAtRank_L7]
      rw [R_rank hR' W (by omega) hlt, if_pos h2]
      simp (disch := first | omega | exact hB _) only [hR', h3, ob_s, ob2_s, chk_t, lt_s', litI, n_add, n_mul, n_sub, inb_n, ix_n, n_le, n_lt, n_eq, n_bit, n_m1_lt, n_m1_eq, n_m1_m, n_ne_m, n_m_ne, n_m_lt0, n_0_le_m, if_true, if_false, eq_self, not_true_eq_false, not_false_eq_true, isB_0, isB_1, Bool.false_eq_true, true_and, and_true, false_and, and_false, and_self, Nat.one_ne_zero, Nat.zero_ne_one, reduceIte]
    · rw [u2_s]; rfl
  · have h3 : V 0 ≤ fst (fun g => decide (nI (rkN V g) = x1)) (V 0) := by omega
    have hth : up2 (up2 Mm 0 0 (nI 0)) 0 0 (nI 1) = up2 Mm 0 0 (nI 1) := by
      funext k jj
      rw [u2_if, u2_if, u2_if]
      split <;> (try split) <;> rfl
    refine ⟨.inl 5, nI 0, up2 Mm 0 0 (nI 1), hc _ (fun k => ?_), hr _ (fun k => ?_), fun k hk => Sum.inl.inj hk ▸ rfl, ?_, no_r, h.thr hj⟩
    · simp only [F_X9_frogAtRank_L2]
      simp (disch := first | omega | exact hB _) only [hA.F, h3, ob_s, ob2_s, chk_t, lt_s', litI, n_add, n_mul, n_sub, inb_n, ix_n, n_le, n_lt, n_eq, n_bit, n_m1_lt, n_m1_eq, n_m1_m, n_ne_m, n_m_ne, n_m_lt0, n_0_le_m, if_true, if_false, eq_self, not_true_eq_false, not_false_eq_true, isB_0, isB_1, Bool.false_eq_true, true_and, and_true, false_and, and_false, and_self, Nat.one_ne_zero, Nat.zero_ne_one, reduceIte]
    · simp only [F_X10_frogAtRank_L7]
      simp (disch := first | omega | exact hB _) only [hR', h3, R_fail, hth, ob_s, ob2_s, chk_t, lt_s', litI, n_add, n_mul, n_sub, inb_n, ix_n, n_le, n_lt, n_eq, n_bit, n_m1_lt, n_m1_eq, n_m1_m, n_ne_m, n_m_ne, n_m_lt0, n_0_le_m, if_true, if_false, eq_self, not_true_eq_false, not_false_eq_true, isB_0, isB_1, Bool.false_eq_true, true_and, and_true, false_and, and_false, and_self, Nat.one_ne_zero, Nat.zero_ne_one, reduceIte]
    · rw [u2_s]; rfl
end ORD
