/-! ===== PURE: floats ===== -/
theorem and31 (r : UInt32) : (r &&& 0x7fffffff).toNat = r.toNat % 2 ^ 31 := by
  rw [UInt32.toNat_and, show (0x7fffffff : UInt32).toNat = 2 ^ 31 - 1 from rfl, Nat.and_two_pow_sub_one_eq_mod]
theorem and63 (r : UInt64) : (r &&& 0x7fffffffffffffff).toNat = r.toNat % 2 ^ 63 := by
  rw [UInt64.toNat_and, show (0x7fffffffffffffff : UInt64).toNat = 2 ^ 63 - 1 from rfl, Nat.and_two_pow_sub_one_eq_mod]
theorem n32_of {r : UInt32} (h : Jvm.FP.Core.fIsNaN r = false) : n32 r = true := by
  refine decide_eq_true ?_
  rw [UInt32.le_iff_toNat_le, and31, show (0x7f800000 : UInt32).toNat = 2139095040 from rfl]
  refine Nat.le_of_not_lt (fun q => ?_)
  rw [(Jvm.FP.Core.isNaN_bits32 r).mpr q] at h
  cases h
theorem n64_of {r : UInt64} (h : Jvm.FP.Core.dIsNaN r = false) : n64 r = true := by
  refine decide_eq_true ?_
  rw [UInt64.le_iff_toNat_le, and63, show (0x7ff0000000000000 : UInt64).toNat = 9218868437227405312 from rfl]
  refine Nat.le_of_not_lt (fun q => ?_)
  rw [(Jvm.FP.Core.isNaN_bits r).mpr q] at h
  cases h
theorem nI_ne00 {b : Nat} (h : b ≠ 0) (hb : b < 2147483648) : nI b ≠ 0 := fun e => by
  have e2 : nI b = nI 0 := e
  rw [n_eq hb (by decide)] at e2
  exact h e2
theorem fdiv_ok {a b : Nat} (h : b ≠ 0) (hb : b < 2147483648) : Jvm.FP.Core.fIsNaN (FP.fdiv (FP.i2f (nI a)) (FP.i2f (nI b))) = false :=
  Jvm.FP.Core.fdiv_out (Jvm.FP.Core.i2f_fin _).notNaN (Jvm.FP.Core.i2f_fin _) (fun z => Jvm.FP.Core.i2f_ne_zero (nI_ne00 h hb) ((Jvm.FP.Core.zero_bits232 _).mp z))
theorem ddiv_ok {a b : Nat} (h : b ≠ 0) (hb : b < 2147483648) : Jvm.FP.Core.dIsNaN (FP.ddiv (FP.i2d (nI a)) (FP.i2d (nI b))) = false :=
  Jvm.FP.Core.ddiv_out (Jvm.FP.Core.i2d_fin _).notNaN (Jvm.FP.Core.i2d_fin _) (fun z => Jvm.FP.Core.i2d_ne_zero (nI_ne00 h hb) ((Jvm.FP.Core.zero_bits2 _).mp z))
theorem dcmp_same {a : UInt64} (h : Jvm.FP.Core.dIsNaN a = false) : Op.cmpValue (FP.dcmp a a) .l = 0 := by
  have e : FP.dcmp a a = some .eq := Jvm.FP.Core.dcmp_self ((Jvm.FP.Core.notNaN_iff a).mp h)
  rw [e]
  rfl
theorem f2d_ok {a : UInt32} (h : Jvm.FP.Core.fIsNaN a = false) : Jvm.FP.Core.dIsNaN (FP.f2d a) = false := by
  unfold FP.f2d
  rw [h]
  exact Jvm.FP.Core.f2d_out h
section FLO
variable {n c : Nat} {T M Mm : Mem} {V : Nat → Nat}
theorem sums_pos (W : WF c V) {i : Nat} (hi : i < 6) (h : V (59 + 10 * i + 7) ≠ 0) : sumS V i 1 + sumS V i 0 ≠ 0 := by
  have hc := W.cf hi (k := 0) (by omega)
  have hF := W.F
  have hw := (W.fr (f := V (191 + 36 * i + 3 * 0)) (by omega)).2.2.2.2.2 (by omega)
  have hs : 0 < stg V i 0 := Nat.mul_pos hc.2.2.2 hw
  rcases (by omega : V (191 + 36 * i + 3 * 0 + 2) = 0 ∨ V (191 + 36 * i + 3 * 0 + 2) = 1) with q | q
  · have : 0 < sumS V i 0 := sm_pos (m := 0) (by omega) (by simp only [q, if_true]; exact hs)
    omega
  · have : 0 < sumS V i 1 := sm_pos (m := 0) (by omega) (by simp only [q, if_true]; exact hs)
    omega
theorem sc_shareFor (hn : 2900 ≤ n) : SC_shareFor n Rel := by
  intro j T M Mm x1 hj h
  obtain ⟨V, hR, W, hA⟩ := h.core
  have hB := W.b
  have hM := W.M
  rcases (Classical.em (isL x1 (V 2))).symm with h1 | ⟨i, hi, rfl⟩
  · refine ⟨.inl 2, FP.fconst0, up2 Mm 0 0 (nI 1), ?_, ?_, fun k hk => .inl (Sum.inl.inj hk).symm, ?_, no_r, fun w hw => (nomatch hw), h.thr hj⟩
    · unfold F_X9_shareFor
      rw [reqMotion_f hA hB h1]
      rfl
    · unfold F_X10_shareFor
      simp (disch := first | omega | exact hB _) only [R_isMotion_f hR hB h1, u2_s, n10, ob_s, ob2_s, chk_t, lt_s', litI, n_add, n_mul, n_sub, inb_n, ix_n, n_le, n_lt, n_eq, n_bit, n_m1_lt, n_m1_eq, n_m1_m, n_ne_m, n_m_ne, n_m_lt0, n_0_le_m, if_true, if_false, eq_self, not_true_eq_false, not_false_eq_true, isB_0, isB_1, Bool.false_eq_true, true_and, and_true, false_and, and_false, and_self, Nat.one_ne_zero, Nat.zero_ne_one, reduceIte]
    · rw [u2_s]; rfl
  have hi6 : i < 6 := by omega
  have hm : MR M (8 + 4 * i) V i := hA.mo i hi6
  have hl := W.ci hi6
  have b1 := sumS_le W (s := 1) hi6
  have b0 := sumS_le W (s := 0) hi6
  have c1 := C_sumOfSide (n := n) hm W (by omega) hi6 (by decide : 1 < 65536)
  have c0 := C_sumOfSide (n := n) hm W (by omega) hi6 (by decide : 0 < 65536)
  have hR' : RR (up2 Mm 0 0 (nI 0)) V := hR.th
  have r1 := R_sum (n := n) hR' W (by omega) hi6 (by decide : 1 < 65536)
  have r0 := R_sum (n := n) hR' W (by omega) hi6 (by decide : 0 < 65536)
  by_cases h0 : V (59 + 10 * i + 7) = 0
  · have z1 : sumS V i 1 = 0 := by unfold sumS; rw [h0]; rfl
    have z0 : sumS V i 0 = 0 := by unfold sumS; rw [h0]; rfl
    rw [z1] at c1
    rw [z0] at c0
    refine ⟨.inl 3, FP.fconst0, up2 Mm 0 0 (nI 2), ?_, ?_, fun k hk => .inr (Sum.inl.inj hk).symm, ?_, no_r, fun w hw => (nomatch hw), h.thr hj⟩
    · unfold F_X9_shareFor
      simp (disch := first | omega | exact hB _) only [reqMotion_t hA hB hi, obx_r, c1, c0, ob_s, ob2_s, chk_t, lt_s', litI, n_add, n_mul, n_sub, inb_n, ix_n, n_le, n_lt, n_eq, n_bit, n_m1_lt, n_m1_eq, n_m1_m, n_ne_m, n_m_ne, n_m_lt0, n_0_le_m, if_true, if_false, eq_self, not_true_eq_false, not_false_eq_true, isB_0, isB_1, Bool.false_eq_true, true_and, and_true, false_and, and_false, and_self, Nat.one_ne_zero, Nat.zero_ne_one, reduceIte]
    · unfold F_X10_shareFor
      simp (disch := first | omega | exact hB _) only [R_isMotion_t hR hB hi, n10, R_of, hR, h0, u2_s, ob_s, ob2_s, chk_t, lt_s', litI, n_add, n_mul, n_sub, inb_n, ix_n, n_le, n_lt, n_eq, n_bit, n_m1_lt, n_m1_eq, n_m1_m, n_ne_m, n_m_ne, n_m_lt0, n_0_le_m, if_true, if_false, eq_self, not_true_eq_false, not_false_eq_true, isB_0, isB_1, Bool.false_eq_true, true_and, and_true, false_and, and_false, and_self, Nat.one_ne_zero, Nat.zero_ne_one, reduceIte]
      rfl
    · rw [u2_s]; rfl
  have hp := sums_pos W hi6 h0
  have hd := fdiv_ok (a := sumS V i 1) (b := sumS V i 1 + sumS V i 0) hp (by omega)
  have hd32 := n32_of hd
  refine ⟨.inr (FP.fdiv (FP.i2f (nI (sumS V i 1))) (FP.i2f (nI (sumS V i 1 + sumS V i 0)))), _, up2 Mm 0 0 (nI 0), ?_, ?_, no_l, ?_, fun w hw => (Sum.inr.inj hw).symm, fun w hw => ?_, h.thr hj⟩
  · unfold F_X9_shareFor
    simp (disch := first | omega | exact hB _) only [reqMotion_t hA hB hi, obx_r, c1, c0, hp, hd32, ob_s, ob2_s, chk_t, lt_s', litI, n_add, n_mul, n_sub, inb_n, ix_n, n_le, n_lt, n_eq, n_bit, n_m1_lt, n_m1_eq, n_m1_m, n_ne_m, n_m_ne, n_m_lt0, n_0_le_m, if_true, if_false, eq_self, not_true_eq_false, not_false_eq_true, isB_0, isB_1, Bool.false_eq_true, true_and, and_true, false_and, and_false, and_self, Nat.one_ne_zero, Nat.zero_ne_one, reduceIte]
  · unfold F_X10_shareFor
    simp (disch := first | omega | exact hB _) only [R_isMotion_t hR hB hi, n10, R_of, hR, h0, u2_s, r1, r0, hd32, ob_s, ob2_s, chk_t, lt_s', litI, n_add, n_mul, n_sub, inb_n, ix_n, n_le, n_lt, n_eq, n_bit, n_m1_lt, n_m1_eq, n_m1_m, n_ne_m, n_m_ne, n_m_lt0, n_0_le_m, if_true, if_false, eq_self, not_true_eq_false, not_false_eq_true, isB_0, isB_1, Bool.false_eq_true, true_and, and_true, false_and, and_false, and_self, Nat.one_ne_zero, Nat.zero_ne_one, reduceIte]
  · rw [u2_s]; rfl
  · cases hw
    have q := f2d_ok hd
    exact ⟨n64_of q, dcmp_same q⟩
theorem mask_W (W : WF c V) {w : Nat} (hw : ∀ f, f < 12 → (w.testBit f = true ↔ V (29 + f) ≠ 0)) : sm (fun f => if w.testBit f = true then V (17 + f) else 0) (V 0) = sitW V := by
  have hF := W.F
  refine sm_congr (fun f hf => ?_)
  have q := hw f (by omega)
  by_cases z : V (29 + f) = 0
  · rw [if_pos z, if_neg (fun e => absurd z (q.1 e))]
  · rw [if_neg z, if_pos (q.2 z)]
theorem sc_meanSittingWeight (hn : 2900 ≤ n) : SC_meanSittingWeight n Rel := by
  intro j T M Mm hj h
  obtain ⟨V, hR, W, hA⟩ := h.core
  have hB := W.b
  have hF := W.F
  have hsn := sitN_le W
  obtain ⟨w, w1, w2, w3⟩ := hA.ma
  have hbc := C_bitCount (n := n) (M := M) w1
  rw [mask_sit W w3] at hbc
  have hws := C_weightOfSet (n := n) hA hB hF (by omega) w1
  rw [mask_W W w3] at hws
  have hR' : ∀ x, RR (up2 Mm 0 0 x) V := fun x => hR.th
  have loop : ∀ r, (∀ k, F_X10_meanSittingWeight_L9 n (k + 1) (nI (sitN V)) (nI (sitW V)) (nI (V 0)) Mm = r) → F_X10_meanSittingWeight n Mm = r := fun r h0 => by
    unfold F_X10_meanSittingWeight
    rw [R_sitting hR hB hF (by omega), ob_s]
    refine loopS (fun k f => F_X10_meanSittingWeight_L9 n k (nI (sitN V)) (nI (sm (fun f => if V (29 + f) = 0 then 0 else V (17 + f)) f)) (nI f) Mm) (V 0) r h0 (fun k f hf => ?_) n (by omega)
    have hle : ¬ V 0 ≤ f := by omega
    simp only [F_X10_meanSittingWeight_L9]
    simp (disch := first | omega | exact hB _) only [hR, hle, R_isOn hR hB (by omega : f < 12), sm_s, ob_s, ob2_s, chk_t, lt_s', litI, n_add, n_mul, n_sub, inb_n, ix_n, n_le, n_lt, n_eq, n_bit, n_m1_lt, n_m1_eq, n_m1_m, n_ne_m, n_m_ne, n_m_lt0, n_0_le_m, if_true, if_false, eq_self, not_true_eq_false, not_false_eq_true, isB_0, isB_1, Bool.false_eq_true, true_and, and_true, false_and, and_false, and_self, Nat.one_ne_zero, Nat.zero_ne_one, reduceIte]
    by_cases e : V (29 + f) = 0
    · simp (disch := first | omega | exact hB _) only [e, ob_s, ob2_s, chk_t, lt_s', litI, n_add, n_mul, n_sub, inb_n, ix_n, n_le, n_lt, n_eq, n_bit, n_m1_lt, n_m1_eq, n_m1_m, n_ne_m, n_m_ne, n_m_lt0, n_0_le_m, if_true, if_false, eq_self, not_true_eq_false, not_false_eq_true, isB_0, isB_1, Bool.false_eq_true, true_and, and_true, false_and, and_false, and_self, Nat.one_ne_zero, Nat.zero_ne_one, reduceIte]
    · simp (disch := first | omega | exact hB _) only [e, n10, ob_s, ob2_s, chk_t, lt_s', litI, n_add, n_mul, n_sub, inb_n, ix_n, n_le, n_lt, n_eq, n_bit, n_m1_lt, n_m1_eq, n_m1_m, n_ne_m, n_m_ne, n_m_lt0, n_0_le_m, if_true, if_false, eq_self, not_true_eq_false, not_false_eq_true, isB_0, isB_1, Bool.false_eq_true, true_and, and_true, false_and, and_false, and_self, Nat.one_ne_zero, Nat.zero_ne_one, reduceIte]
  by_cases h0 : sitN V = 0
  · refine ⟨.inl 3, FP.dconst0, up2 Mm 0 0 (nI 1), ?_, loop _ (fun k => ?_), fun k hk => Sum.inl.inj hk ▸ rfl, ?_, no_r, fun w hw => (nomatch hw), h.thr hj⟩
    · unfold F_X9_meanSittingWeight
      rw [w2, hbc, h0]
      rfl
    · simp only [F_X10_meanSittingWeight_L9]
      simp (disch := first | omega | exact hB _) only [hR, Nat.le_refl, h0, u2_s, n10, ob_s, ob2_s, chk_t, lt_s', litI, n_add, n_mul, n_sub, inb_n, ix_n, n_le, n_lt, n_eq, n_bit, n_m1_lt, n_m1_eq, n_m1_m, n_ne_m, n_m_ne, n_m_lt0, n_0_le_m, if_true, if_false, eq_self, not_true_eq_false, not_false_eq_true, isB_0, isB_1, Bool.false_eq_true, true_and, and_true, false_and, and_false, and_self, Nat.one_ne_zero, Nat.zero_ne_one, reduceIte]
    · rw [u2_s]; rfl
  have hd := ddiv_ok (a := sitW V) (b := sitN V) h0 (by omega)
  have hd64 := n64_of hd
  refine ⟨.inr (FP.ddiv (FP.i2d (nI (sitW V))) (FP.i2d (nI (sitN V)))), _, up2 Mm 0 0 (nI 0), ?_, loop _ (fun k => ?_), no_l, ?_, fun w hw => (Sum.inr.inj hw).symm, fun w hw => ?_, h.thr hj⟩
  · unfold F_X9_meanSittingWeight
    simp (disch := first | omega | exact hB _) only [w2, hbc, h0, hws, hd64, ob_s, ob2_s, chk_t, lt_s', litI, n_add, n_mul, n_sub, inb_n, ix_n, n_le, n_lt, n_eq, n_bit, n_m1_lt, n_m1_eq, n_m1_m, n_ne_m, n_m_ne, n_m_lt0, n_0_le_m, if_true, if_false, eq_self, not_true_eq_false, not_false_eq_true, isB_0, isB_1, Bool.false_eq_true, true_and, and_true, false_and, and_false, and_self, Nat.one_ne_zero, Nat.zero_ne_one, reduceIte]
  · simp only [F_X10_meanSittingWeight_L9]
    simp (disch := first | omega | exact hB _) only [hR, Nat.le_refl, h0, u2_s, hd64, ob_s, ob2_s, chk_t, lt_s', litI, n_add, n_mul, n_sub, inb_n, ix_n, n_le, n_lt, n_eq, n_bit, n_m1_lt, n_m1_eq, n_m1_m, n_ne_m, n_m_ne, n_m_lt0, n_0_le_m, if_true, if_false, eq_self, not_true_eq_false, not_false_eq_true, isB_0, isB_1, Bool.false_eq_true, true_and, and_true, false_and, and_false, and_self, Nat.one_ne_zero, Nat.zero_ne_one, reduceIte]
  · rw [u2_s]; rfl
  · cases hw
    exact dcmp_same hd
end FLO
