/-! ===== PURE: croaks by ponds, the strongest ===== -/
section CBP
variable {n c : Nat} {T M Mm : Mem} {V : Nat → Nat}
def pnd (V : Nat → Nat) (i p k : Nat) : Nat := if V (191 + 36 * i + 3 * k + 2) = 1 then (if V (5 + V (191 + 36 * i + 3 * k)) = p then stg V i k else 0) else 0
theorem C_fromPond (hA : AR M 1 V) (W : WF c V) (hn : 13 ≤ n) {i p : Nat} (hi : i < 6) (hp : p < 65536) : F_X2_sumForFromPond n 1 (nI i) (nI p) M = some (nI (sm (fun k => pnd V i p k) (V (59 + 10 * i + 7)))) := by
  have hB := W.b
  have hF := W.F
  have hm : MR M (8 + 4 * i) V i := hA.mo i hi
  have hl := W.ci hi
  have po : ∀ f, f < 12 → M 2 f = nI (V (5 + f)) := hA.po
  unfold F_X2_sumForFromPond
  simp (disch := first | omega | exact hB _) only [ob_s, ob2_s, chk_t, lt_s', litI, n_add, n_mul, n_sub, inb_n, ix_n, n_le, n_lt, n_eq, n_bit, n_m1_lt, n_m1_eq, n_m1_m, n_ne_m, n_m_ne, n_m_lt0, n_0_le_m, if_true, if_false, eq_self, not_true_eq_false, not_false_eq_true, isB_0, isB_1, Bool.false_eq_true, true_and, and_true, false_and, and_false, and_self, Nat.one_ne_zero, Nat.zero_ne_one, reduceIte]
  refine loopS (fun k f => F_X2_sumForFromPond_L13 n 1 (nI i) M k (nI p) (nI (sm (fun k => pnd V i p k) f)) (nI f)) (V (59 + 10 * i + 7)) _ (fun k => ?_) (fun k f hf => ?_) n (by omega)
  · simp only [F_X2_sumForFromPond_L13]
    simp (disch := first | omega | exact hB _) only [hm.cn, Nat.le_refl, ob_s, ob2_s, chk_t, lt_s', litI, n_add, n_mul, n_sub, inb_n, ix_n, n_le, n_lt, n_eq, n_bit, n_m1_lt, n_m1_eq, n_m1_m, n_ne_m, n_m_ne, n_m_lt0, n_0_le_m, if_true, if_false, eq_self, not_true_eq_false, not_false_eq_true, isB_0, isB_1, Bool.false_eq_true, true_and, and_true, false_and, and_false, and_self, Nat.one_ne_zero, Nat.zero_ne_one, reduceIte]
  · have h : ¬ V (59 + 10 * i + 7) ≤ f := by omega
    have hc := W.cf hi hf
    simp only [F_X2_sumForFromPond_L13, pnd]
    simp (disch := first | omega | exact hB _) only [hm.cn, h, C_isFor hm W hi hf, sm_s, ob_s, ob2_s, chk_t, lt_s', litI, n_add, n_mul, n_sub, inb_n, ix_n, n_le, n_lt, n_eq, n_bit, n_m1_lt, n_m1_eq, n_m1_m, n_ne_m, n_m_ne, n_m_lt0, n_0_le_m, if_true, if_false, eq_self, not_true_eq_false, not_false_eq_true, isB_0, isB_1, Bool.false_eq_true, true_and, and_true, false_and, and_false, and_self, Nat.one_ne_zero, Nat.zero_ne_one, reduceIte]
    rcases (by omega : V (191 + 36 * i + 3 * f + 2) = 0 ∨ V (191 + 36 * i + 3 * f + 2) = 1) with q | q
    · simp (disch := first | omega | exact hB _) only [q, Nat.add_zero, ob_s, ob2_s, chk_t, lt_s', litI, n_add, n_mul, n_sub, inb_n, ix_n, n_le, n_lt, n_eq, n_bit, n_m1_lt, n_m1_eq, n_m1_m, n_ne_m, n_m_ne, n_m_lt0, n_0_le_m, if_true, if_false, eq_self, not_true_eq_false, not_false_eq_true, isB_0, isB_1, Bool.false_eq_true, true_and, and_true, false_and, and_false, and_self, Nat.one_ne_zero, Nat.zero_ne_one, reduceIte]
    · simp (disch := first | omega | exact hB _) only [q, hm.cf, hm.cs, po, ob_s, ob2_s, chk_t, lt_s', litI, n_add, n_mul, n_sub, inb_n, ix_n, n_le, n_lt, n_eq, n_bit, n_m1_lt, n_m1_eq, n_m1_m, n_ne_m, n_m_ne, n_m_lt0, n_0_le_m, if_true, if_false, eq_self, not_true_eq_false, not_false_eq_true, isB_0, isB_1, Bool.false_eq_true, true_and, and_true, false_and, and_false, and_self, Nat.one_ne_zero, Nat.zero_ne_one, reduceIte]
      by_cases e : V (5 + V (191 + 36 * i + 3 * f)) = p
      · simp (disch := first | omega | exact hB _) only [e, ob_s, ob2_s, chk_t, lt_s', litI, n_add, n_mul, n_sub, inb_n, ix_n, n_le, n_lt, n_eq, n_bit, n_m1_lt, n_m1_eq, n_m1_m, n_ne_m, n_m_ne, n_m_lt0, n_0_le_m, if_true, if_false, eq_self, not_true_eq_false, not_false_eq_true, isB_0, isB_1, Bool.false_eq_true, true_and, and_true, false_and, and_false, and_self, Nat.one_ne_zero, Nat.zero_ne_one, reduceIte]
      · simp (disch := first | omega | exact hB _) only [e, Nat.add_zero, ob_s, ob2_s, chk_t, lt_s', litI, n_add, n_mul, n_sub, inb_n, ix_n, n_le, n_lt, n_eq, n_bit, n_m1_lt, n_m1_eq, n_m1_m, n_ne_m, n_m_ne, n_m_lt0, n_0_le_m, if_true, if_false, eq_self, not_true_eq_false, not_false_eq_true, isB_0, isB_1, Bool.false_eq_true, true_and, and_true, false_and, and_false, and_self, Nat.one_ne_zero, Nat.zero_ne_one, reduceIte]
theorem ponds_sum (W : WF c V) {i : Nat} (hi : i < 6) : sm (fun p => sm (fun k => pnd V i p k) (V (59 + 10 * i + 7))) 4 = sumS V i 1 := by
  rw [sm_swap]
  refine sm_congr (fun k hk => ?_)
  have hc := W.cf hi hk
  have hF := W.F
  have hp := (W.fr (f := V (191 + 36 * i + 3 * k)) (by omega)).1
  show sm (fun p => pnd V i p k) 4 = _
  unfold pnd
  by_cases e : V (191 + 36 * i + 3 * k + 2) = 1
  · simp only [e, if_true]
    generalize V (5 + V (191 + 36 * i + 3 * k)) = x at hp
    rcases (by omega : x = 0 ∨ x = 1 ∨ x = 2 ∨ x = 3) with q | q | q | q <;> subst q <;> simp [sm]
  · simp only [e, if_false]
    exact sm_0 (fun _ _ => rfl)
theorem C_byPonds (hA : AR M 1 V) (W : WF c V) (hn : 13 ≤ n) {i : Nat} (hi : i < V 2) : F_X9_croaksForByPonds n (nI i) M = some (.inr (nI (sumS V i 1))) := by
  have hB := W.b
  have hM := W.M
  rw [← ponds_sum W (i := i) (by omega)]
  unfold F_X9_croaksForByPonds
  simp (disch := first | omega | exact hB _) only [reqMotion_t hA hB hi, obx_r, ob_s, ob2_s, chk_t, lt_s', litI, n_add, n_mul, n_sub, inb_n, ix_n, n_le, n_lt, n_eq, n_bit, n_m1_lt, n_m1_eq, n_m1_m, n_ne_m, n_m_ne, n_m_lt0, n_0_le_m, if_true, if_false, eq_self, not_true_eq_false, not_false_eq_true, isB_0, isB_1, Bool.false_eq_true, true_and, and_true, false_and, and_false, and_self, Nat.one_ne_zero, Nat.zero_ne_one, reduceIte]
  refine loopS (fun k f => F_X9_croaksForByPonds_L9 n M k (nI i) (nI (sm (fun p => sm (fun k => pnd V i p k) (V (59 + 10 * i + 7))) f)) (nI f)) 4 _ (fun k => ?_) (fun k f hf => ?_) n (by omega)
  · simp only [F_X9_croaksForByPonds_L9]
    simp (disch := first | omega | exact hB _) only [Nat.le_refl, ob_s, ob2_s, chk_t, lt_s', litI, n_add, n_mul, n_sub, inb_n, ix_n, n_le, n_lt, n_eq, n_bit, n_m1_lt, n_m1_eq, n_m1_m, n_ne_m, n_m_ne, n_m_lt0, n_0_le_m, if_true, if_false, eq_self, not_true_eq_false, not_false_eq_true, isB_0, isB_1, Bool.false_eq_true, true_and, and_true, false_and, and_false, and_self, Nat.one_ne_zero, Nat.zero_ne_one, reduceIte]
  · have h : ¬ 4 ≤ f := by omega
    simp only [F_X9_croaksForByPonds_L9]
    simp (disch := first | omega | exact hB _) only [h, C_fromPond hA W hn (by omega : i < 6) (by omega : f < 65536), sm_s, ob_s, ob2_s, chk_t, lt_s', litI, n_add, n_mul, n_sub, inb_n, ix_n, n_le, n_lt, n_eq, n_bit, n_m1_lt, n_m1_eq, n_m1_m, n_ne_m, n_m_ne, n_m_lt0, n_0_le_m, if_true, if_false, eq_self, not_true_eq_false, not_false_eq_true, isB_0, isB_1, Bool.false_eq_true, true_and, and_true, false_and, and_false, and_self, Nat.one_ne_zero, Nat.zero_ne_one, reduceIte]
theorem C_croaksFor (hA : AR M 1 V) (W : WF c V) (hn : 13 ≤ n) {i : Nat} (hi : i < V 2) : F_X9_croaksFor n (nI i) M = some (.inr (nI (sumS V i 1))) := by
  have hB := W.b
  have hM := W.M
  have hm : MR M (8 + 4 * i) V i := hA.mo i (by omega)
  unfold F_X9_croaksFor
  simp (disch := first | omega | exact hB _) only [reqMotion_t hA hB hi, obx_r, C_sumOfSide hm W hn (by omega : i < 6) (by decide : 1 < 65536), ob_s, ob2_s, chk_t, lt_s', litI, n_add, n_mul, n_sub, inb_n, ix_n, n_le, n_lt, n_eq, n_bit, n_m1_lt, n_m1_eq, n_m1_m, n_ne_m, n_m_ne, n_m_lt0, n_0_le_m, if_true, if_false, eq_self, not_true_eq_false, not_false_eq_true, isB_0, isB_1, Bool.false_eq_true, true_and, and_true, false_and, and_false, and_self, Nat.one_ne_zero, Nat.zero_ne_one, reduceIte]
theorem sc_croaksForByPonds (hn : 2900 ≤ n) : SC_croaksForByPonds n Rel := by
  intro j T M Mm x1 hj h
  obtain ⟨V, hR, W, hA⟩ := h.core
  have hB := W.b
  have hM := W.M
  rcases (Classical.em (isL x1 (V 2))).symm with h1 | ⟨i, hi, rfl⟩
  · refine ⟨.inl 2, nI 0, up2 Mm 0 0 (nI 1), ?_, ?_, fun k hk => Sum.inl.inj hk ▸ rfl, ?_, no_r, h.thr hj⟩
    · unfold F_X9_croaksForByPonds
      rw [reqMotion_f hA hB h1]
      rfl
    · unfold F_X10_croaksForByPonds F_X10_side
      simp (disch := first | omega | exact hB _) only [R_isMotion_f hR hB h1, u2_s, n10, ob_s, ob2_s, chk_t, lt_s', litI, n_add, n_mul, n_sub, inb_n, ix_n, n_le, n_lt, n_eq, n_bit, n_m1_lt, n_m1_eq, n_m1_m, n_ne_m, n_m_ne, n_m_lt0, n_0_le_m, if_true, if_false, eq_self, not_true_eq_false, not_false_eq_true, isB_0, isB_1, Bool.false_eq_true, true_and, and_true, false_and, and_false, and_self, Nat.one_ne_zero, Nat.zero_ne_one, reduceIte]
    · rw [u2_s]; rfl
  · refine ⟨.inr (nI (sumS V i 1)), nI (sumS V i 1), up2 Mm 0 0 (nI 0), C_byPonds hA W (by omega) hi, ?_, no_l, ?_, fun w hw => (Sum.inr.inj hw).symm, h.thr hj⟩
    · unfold F_X10_croaksForByPonds F_X10_side
      simp (disch := first | omega | exact hB _) only [R_isMotion_t hR hB hi, u2_s, n10, R_sum (hR.th (x := nI 0)) W (by omega : 13 ≤ n) (by omega : i < 6) (by decide : 1 < 65536), ob_s, ob2_s, chk_t, lt_s', litI, n_add, n_mul, n_sub, inb_n, ix_n, n_le, n_lt, n_eq, n_bit, n_m1_lt, n_m1_eq, n_m1_m, n_ne_m, n_m_ne, n_m_lt0, n_0_le_m, if_true, if_false, eq_self, not_true_eq_false, not_false_eq_true, isB_0, isB_1, Bool.false_eq_true, true_and, and_true, false_and, and_false, and_self, Nat.one_ne_zero, Nat.zero_ne_one, reduceIte]
    · rw [u2_s]; rfl
theorem sc_strongestFrog (hn : 2900 ≤ n) : SC_strongestFrog n Rel := by
  intro j T M Mm x1 hj h
  obtain ⟨V, hR, W, hA⟩ := h.core
  have hB := W.b
  have hM := W.M
  have hF := W.F
  rcases (Classical.em (isL x1 (V 2))).symm with h1 | ⟨i, hi, rfl⟩
  · refine ⟨.inl 2, nI 0, up2 Mm 0 0 (nI 1), ?_, ?_, fun k hk => .inl (Sum.inl.inj hk).symm, ?_, no_r, h.thr hj⟩
    · unfold F_X9_strongestFrog
      rw [reqMotion_f hA hB h1]
      rfl
    · unfold F_X10_strongestFrog
      simp (disch := first | omega | exact hB _) only [R_isMotion_f hR hB h1, u2_s, n10, ob_s, ob2_s, chk_t, lt_s', litI, n_add, n_mul, n_sub, inb_n, ix_n, n_le, n_lt, n_eq, n_bit, n_m1_lt, n_m1_eq, n_m1_m, n_ne_m, n_m_ne, n_m_lt0, n_0_le_m, if_true, if_false, eq_self, not_true_eq_false, not_false_eq_true, isB_0, isB_1, Bool.false_eq_true, true_and, and_true, false_and, and_false, and_self, Nat.one_ne_zero, Nat.zero_ne_one, reduceIte]
    · rw [u2_s]; rfl
  have hi6 : i < 6 := by omega
  have hm : MR M (8 + 4 * i) V i := hA.mo i hi6
  have hl := W.ci hi6
  have hlb : V (59 + 10 * i + 7) < 2147483648 := by omega
  by_cases h0 : V (59 + 10 * i + 7) = 0
  · refine ⟨.inl 5, nI 0, up2 Mm 0 0 (nI 2), ?_, ?_, fun k hk => .inr (Sum.inl.inj hk).symm, ?_, no_r, h.thr hj⟩
    · unfold F_X9_strongestFrog
      simp (disch := first | omega | exact hB _) only [reqMotion_t hA hB hi, obx_r, hm.cn, h0, ob_s, ob2_s, chk_t, lt_s', litI, n_add, n_mul, n_sub, inb_n, ix_n, n_le, n_lt, n_eq, n_bit, n_m1_lt, n_m1_eq, n_m1_m, n_ne_m, n_m_ne, n_m_lt0, n_0_le_m, if_true, if_false, eq_self, not_true_eq_false, not_false_eq_true, isB_0, isB_1, Bool.false_eq_true, true_and, and_true, false_and, and_false, and_self, Nat.one_ne_zero, Nat.zero_ne_one, reduceIte]
    · unfold F_X10_strongestFrog
      simp (disch := first | omega | exact hB _) only [R_isMotion_t hR hB hi, n10, R_of, hR, h0, u2_s, ob_s, ob2_s, chk_t, lt_s', litI, n_add, n_mul, n_sub, inb_n, ix_n, n_le, n_lt, n_eq, n_bit, n_m1_lt, n_m1_eq, n_m1_m, n_ne_m, n_m_ne, n_m_lt0, n_0_le_m, if_true, if_false, eq_self, not_true_eq_false, not_false_eq_true, isB_0, isB_1, Bool.false_eq_true, true_and, and_true, false_and, and_false, and_self, Nat.one_ne_zero, Nat.zero_ne_one, reduceIte]
      rfl
    · rw [u2_s]; rfl
  have hbl := bst_le V i (V (59 + 10 * i + 7)) (by omega)
  have hR' : RR (up2 Mm 0 0 (nI 0)) V := hR.th
  have hst : ∀ k, k < V (59 + 10 * i + 7) → stg V i k < 2147483648 := fun k hk => by have := stg_le W hi6 hk; omega
  refine ⟨.inr (nI (V (191 + 36 * i + 3 * bst V i (V (59 + 10 * i + 7))))), nI (V (191 + 36 * i + 3 * bst V i (V (59 + 10 * i + 7)))), up2 Mm 0 0 (nI 0), ?_, ?_, no_l, ?_, fun w hw => (Sum.inr.inj hw).symm, h.thr hj⟩
  · unfold F_X9_strongestFrog
    simp (disch := first | omega | exact hB _) only [reqMotion_t hA hB hi, obx_r, hm.cn, h0, ob_s, ob2_s, chk_t, lt_s', litI, n_add, n_mul, n_sub, inb_n, ix_n, n_le, n_lt, n_eq, n_bit, n_m1_lt, n_m1_eq, n_m1_m, n_ne_m, n_m_ne, n_m_lt0, n_0_le_m, if_true, if_false, eq_self, not_true_eq_false, not_false_eq_true, isB_0, isB_1, Bool.false_eq_true, true_and, and_true, false_and, and_false, and_self, Nat.one_ne_zero, Nat.zero_ne_one, reduceIte]
    refine loopF (fun k f => F_X9_strongestFrog_L38 n (nI i) M k (nI (bst V i f)) (nI f)) 1 (V (59 + 10 * i + 7)) _ (fun k => ?_) (fun k f hs hf => ?_) n (by omega) (by omega)
    · simp only [F_X9_strongestFrog_L38]
      simp (disch := first | omega | exact hB _) only [hm.cn, Nat.le_refl, hm.cf, ob_s, ob2_s, chk_t, lt_s', litI, n_add, n_mul, n_sub, inb_n, ix_n, n_le, n_lt, n_eq, n_bit, n_m1_lt, n_m1_eq, n_m1_m, n_ne_m, n_m_ne, n_m_lt0, n_0_le_m, if_true, if_false, eq_self, not_true_eq_false, not_false_eq_true, isB_0, isB_1, Bool.false_eq_true, true_and, and_true, false_and, and_false, and_self, Nat.one_ne_zero, Nat.zero_ne_one, reduceIte]
    · have hle : ¬ V (59 + 10 * i + 7) ≤ f := by omega
      have hb2 := bst_le V i f (by omega)
      have s1 := hst f hf
      have s2 := hst (bst V i f) (by omega)
      simp only [F_X9_strongestFrog_L38]
      simp (disch := first | omega | exact hB _) only [hm.cn, hle, hm.cs, bst_s, ob_s, ob2_s, chk_t, lt_s', litI, n_add, n_mul, n_sub, inb_n, ix_n, n_le, n_lt, n_eq, n_bit, n_m1_lt, n_m1_eq, n_m1_m, n_ne_m, n_m_ne, n_m_lt0, n_0_le_m, if_true, if_false, eq_self, not_true_eq_false, not_false_eq_true, isB_0, isB_1, Bool.false_eq_true, true_and, and_true, false_and, and_false, and_self, Nat.one_ne_zero, Nat.zero_ne_one, reduceIte]
      by_cases e : stg V i f ≤ stg V i (bst V i f)
      · simp (disch := first | omega | exact hB _) only [e, ob_s, ob2_s, chk_t, lt_s', litI, n_add, n_mul, n_sub, inb_n, ix_n, n_le, n_lt, n_eq, n_bit, n_m1_lt, n_m1_eq, n_m1_m, n_ne_m, n_m_ne, n_m_lt0, n_0_le_m, if_true, if_false, eq_self, not_true_eq_false, not_false_eq_true, isB_0, isB_1, Bool.false_eq_true, true_and, and_true, false_and, and_false, and_self, Nat.one_ne_zero, Nat.zero_ne_one, reduceIte]
      · simp (disch := first | omega | exact hB _) only [e, ob_s, ob2_s, chk_t, lt_s', litI, n_add, n_mul, n_sub, inb_n, ix_n, n_le, n_lt, n_eq, n_bit, n_m1_lt, n_m1_eq, n_m1_m, n_ne_m, n_m_ne, n_m_lt0, n_0_le_m, if_true, if_false, eq_self, not_true_eq_false, not_false_eq_true, isB_0, isB_1, Bool.false_eq_true, true_and, and_true, false_and, and_false, and_self, Nat.one_ne_zero, Nat.zero_ne_one, reduceIte]
  · unfold F_X10_strongestFrog
    simp (disch := first | omega | exact hB _) only [R_isMotion_t hR hB hi, n10, R_of, hR, h0, u2_s, ob_s, ob2_s, chk_t, lt_s', litI, n_add, n_mul, n_sub, inb_n, ix_n, n_le, n_lt, n_eq, n_bit, n_m1_lt, n_m1_eq, n_m1_m, n_ne_m, n_m_ne, n_m_lt0, n_0_le_m, if_true, if_false, eq_self, not_true_eq_false, not_false_eq_true, isB_0, isB_1, Bool.false_eq_true, true_and, and_true, false_and, and_false, and_self, Nat.one_ne_zero, Nat.zero_ne_one, reduceIte]
    refine loopF (fun k f => F_X10_strongestFrog_L48 n k (nI i) (nI (bst V i f)) (nI f) (up2 Mm 0 0 (nI 0))) 1 (V (59 + 10 * i + 7)) _ (fun k => ?_) (fun k f hs hf => ?_) n (by omega) (by omega)
    · simp only [F_X10_strongestFrog_L48]
      simp (disch := first | omega | exact hB _) only [hR', R_of, Nat.le_refl, R_croaked, ob_s, ob2_s, chk_t, lt_s', litI, n_add, n_mul, n_sub, inb_n, ix_n, n_le, n_lt, n_eq, n_bit, n_m1_lt, n_m1_eq, n_m1_m, n_ne_m, n_m_ne, n_m_lt0, n_0_le_m, if_true, if_false, eq_self, not_true_eq_false, not_false_eq_true, isB_0, isB_1, Bool.false_eq_true, true_and, and_true, false_and, and_false, and_self, Nat.one_ne_zero, Nat.zero_ne_one, reduceIte]
    · have hle : ¬ V (59 + 10 * i + 7) ≤ f := by omega
      have hb2 := bst_le V i f (by omega)
      have s1 := hst f hf
      have s2 := hst (bst V i f) (by omega)
      simp only [F_X10_strongestFrog_L48]
      simp (disch := first | omega | exact hB _) only [hR', R_of, hle, R_strength hR' W hi6 hf, R_strength hR' W hi6 (by omega : bst V i f < V (59 + 10 * i + 7)), bst_s, ob_s, ob2_s, chk_t, lt_s', litI, n_add, n_mul, n_sub, inb_n, ix_n, n_le, n_lt, n_eq, n_bit, n_m1_lt, n_m1_eq, n_m1_m, n_ne_m, n_m_ne, n_m_lt0, n_0_le_m, if_true, if_false, eq_self, not_true_eq_false, not_false_eq_true, isB_0, isB_1, Bool.false_eq_true, true_and, and_true, false_and, and_false, and_self, Nat.one_ne_zero, Nat.zero_ne_one, reduceIte]
      by_cases e : stg V i f ≤ stg V i (bst V i f)
      · simp (disch := first | omega | exact hB _) only [e, ob_s, ob2_s, chk_t, lt_s', litI, n_add, n_mul, n_sub, inb_n, ix_n, n_le, n_lt, n_eq, n_bit, n_m1_lt, n_m1_eq, n_m1_m, n_ne_m, n_m_ne, n_m_lt0, n_0_le_m, if_true, if_false, eq_self, not_true_eq_false, not_false_eq_true, isB_0, isB_1, Bool.false_eq_true, true_and, and_true, false_and, and_false, and_self, Nat.one_ne_zero, Nat.zero_ne_one, reduceIte]
      · simp (disch := first | omega | exact hB _) only [e, ob_s, ob2_s, chk_t, lt_s', litI, n_add, n_mul, n_sub, inb_n, ix_n, n_le, n_lt, n_eq, n_bit, n_m1_lt, n_m1_eq, n_m1_m, n_ne_m, n_m_ne, n_m_lt0, n_0_le_m, if_true, if_false, eq_self, not_true_eq_false, not_false_eq_true, isB_0, isB_1, Bool.false_eq_true, true_and, and_true, false_and, and_false, and_self, Nat.one_ne_zero, Nat.zero_ne_one, reduceIte]
  · rw [u2_s]; rfl
end CBP
