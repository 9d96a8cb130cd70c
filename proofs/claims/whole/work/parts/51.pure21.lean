/-! ===== PURE: the builders ===== -/
theorem n_sub0 {a b : Nat} (ha : a < 2147483648) (hb : b < 2147483648) : (nI a - nI b ≤ nI 0) = (a ≤ b) := by
  rw [Int32.le_iff_toInt_le, Int32.toInt_sub, n_ti ha, n_ti hb, n_ti (by decide), Int.bmod_def]
  apply propext
  split <;> omega
theorem sh0r {a : Nat} (h : a < 2147483648) : nI a >>> (nI 0 &&& nI 31) = nI a := by
  rw [n_shr h (by decide), Nat.pow_zero, Nat.div_one]
theorem sh0l {a : Nat} (h : a < 2147483648) : nI a <<< (nI 0 &&& nI 31) = nI a := by
  rw [n_and31 (by decide), pk_shlN (n := a) _ 0 (sm32 0 (by decide)) (by omega), Nat.pow_zero, Nat.mul_one]
theorem nar_all : ∀ c, c < 127 → vp_nar .byte (nI c).toInt8.toInt32 = nI c := by decide +kernel
theorem nar_all2 : ∀ c, c < 127 → vp_nar .byte (nI c) = nI c := by decide +kernel
theorem fit_all : ∀ c, c < 127 → fits .byte (.int (nI c)) = true := by decide +kernel
theorem ch_all : ∀ c, c < 127 → (((nI c) &&& nI 255).toUInt32 % 65536).toInt32 = nI c := by decide +kernel
theorem isC_all : ∀ c, c < 127 → isC (nI c) = true := by decide +kernel
def TB (T M : Mem) (ob bt cp L cap : Nat) (ch : Nat → Nat) : Prop :=
  M ob 1 = nI 0 ∧ M ob 3 = nI L ∧ T 374 cp = nI cap ∧ L ≤ cap ∧ (cap = 16 ∨ cap = 34 ∨ cap = 70) ∧ (∀ k, k < L → T bt k = nI (ch k) ∧ ch k ≤ 126) ∧ ∀ k, k < cap → ∃ c, c ≤ 126 ∧ T bt k = nI c
section TBS
variable {n : Nat} {T M Mm : Mem}
theorem g_ens_t {L cap need : Nat} {ch : Nat → Nat} (h : TB T M 370 372 0 L cap ch) (hn : need ≤ 68) (hL : cap < need → need ≤ 2 * cap + 1) : ∃ T' cap', Fg_J5_ensureCapacityInternal_d00df_t n T (nI need) M = some ((), T', M) ∧ TB T' M 370 372 0 L cap' ch ∧ need ≤ cap' ∧ T' 373 = T 373 ∧ T' 374 1 = T 374 1 := by
  obtain ⟨h1, h3, hc, hl, h7, hr, hf⟩ := h
  have hB : ∀ k : Nat, 0 ≤ k := fun _ => Nat.zero_le _
  have hcb : cap < 2147483648 := by omega
  unfold Fg_J5_ensureCapacityInternal_d00df_t
  rw [hc, h1, ix_n hcb, litN, sh0r hcb, lt_s', litN]
  by_cases e : need ≤ cap
  · rw [if_pos (by rw [n_sub0 (by omega) hcb]; exact e)]
    exact ⟨T, cap, rfl, ⟨h1, h3, hc, hl, h7, hr, hf⟩, e, rfl, rfl⟩
  · have hne := hL (by omega)
    have e2 : nI need - nI cap = nI (need - cap) := n_sub (by omega)
    have hcap : F_J5_newCapacity_0f7a4_t n T (nI need) M = some (nI (2 * cap + 2)) := by
      have p1 : ¬ 2 * cap + 2 ≤ 0 := by omega
      have p2 : ¬ 2147483639 < 2 * cap + 2 := by omega
      have p3 : need - cap < cap + 2 := by omega
      have p4 : cap + (cap + 2) = 2 * cap + 2 := by omega
      have p5 : ¬ 2 * cap + 2 = 2147483647 := by omega
      unfold F_J5_newCapacity_0f7a4_t F_J8_newLength_cabcc
      simp (disch := first | omega | exact hB _) only [hc, h1, sh0l, sh0r, p1, p2, p3, p4, p5, ob_s, ob2_s, chk_t, lt_s', litI, n_add, n_mul, n_sub, inb_n, ix_n, n_le, n_lt, n_eq, n_bit, n_m1_lt, n_m1_eq, n_m1_m, n_ne_m, n_m_ne, n_m_lt0, n_0_le_m, if_true, if_false, eq_self, not_true_eq_false, not_false_eq_true, isB_0, isB_1, Bool.false_eq_true, true_and, and_true, false_and, and_false, and_self, Nat.one_ne_zero, Nat.zero_ne_one, reduceIte]
    have hz : ix (nI (2 * cap + 2)) = 2 * cap + 2 := ix_n (by omega)
    have hgok : gok (T 372) cap (nI (2 * cap + 2)) = true := by
      unfold gok
      rw [hz, Bool.and_eq_true]
      refine ⟨decide_eq_true ⟨by omega, by omega, rfl⟩, List.all_eq_true.mpr (fun i hi => ?_)⟩
      obtain ⟨c, hc1, hc2⟩ := hf i (List.mem_range.mp hi)
      rw [hc2]
      exact fit_all c (by omega)
    rw [if_neg (by rw [n_sub0 (by omega) hcb]; exact e), hcap, ob_s, sh0l (by omega), hgok, chk_t, lt_s']
    refine ⟨gT T 372 0 (nI (2 * cap + 2)), 2 * cap + 2, rfl, ⟨h1, h3, ?_, by omega, by omega, fun k hk => ?_, fun k hk => ?_⟩, by omega, ?_, ?_⟩
    · unfold gT; rw [ur_s]; simp [upd]
    · unfold gT
      rw [ur_k (by decide), ur_s, hc, ix_n hcb, cpy0 (by omega)]
      exact hr k hk
    · unfold gT
      rw [ur_k (by decide), ur_s, hc, ix_n hcb]
      by_cases e4 : k < cap
      · rw [cpy0 e4]; exact hf k e4
      · exact ⟨0, by omega, by unfold va_cpy; rw [if_neg (by omega)]; rfl⟩
    · unfold gT; rw [ur_k (by decide), ur_k (by decide)]
    · unfold gT; rw [ur_s]; simp [upd]
theorem g_app_t {L cap x : Nat} {ch : Nat → Nat} (h : TB T M 370 372 0 L cap ch) (hL : L < 68) (hx : x ≤ 126) : ∃ T' cap', Fg_J4_append_cf468_t n T (nI x) M = some ((), T', up2 M 370 3 (nI (L + 1))) ∧ TB T' (up2 M 370 3 (nI (L + 1))) 370 372 0 (L + 1) cap' (fun k => if k = L then x else ch k) ∧ T' 373 = T 373 ∧ T' 374 1 = T 374 1 := by
  have h0 := h
  obtain ⟨h1, h3, hc, hl, h7, hr, hf⟩ := h0
  obtain ⟨T', cap', g1, ⟨k1, k3, kc, kl, k7, kr, kf⟩, g3, g4, g5⟩ := g_ens_t (n := n) (need := L + 1) h (by omega) (fun q => by omega)
  have hB : ∀ k : Nat, 0 ≤ k := fun _ => Nat.zero_le _
  have hx255 : ¬ 255 < x := by omega
  have hin : inb (nI L) cap' = true := inb_n (by omega) (by omega)
  refine ⟨bT T' 372 (nI L) (nI x).toInt8.toInt32, cap', ?_, ⟨by rw [u2_j (by decide)]; exact h1, u2_s, ?_, g3, k7, fun k hk => ?_, fun k hk => ?_⟩, ?_, ?_⟩
  · unfold Fg_J4_append_cf468_t Fg_J5_append_3fe6f_t F_J5_isLatin1_aae02_t F_J1_canEncode_fc78d
    rw [h3, litN, n_add, g1]
    unfold ogu
    simp (disch := first | omega | exact hB _) only [h1, h3, n10, hx255, kc, hin, ob_s, ob2_s, chk_t, lt_s', litI, n_add, n_mul, n_sub, inb_n, ix_n, n_le, n_lt, n_eq, n_bit, n_m1_lt, n_m1_eq, n_m1_m, n_ne_m, n_m_ne, n_m_lt0, n_0_le_m, if_true, if_false, eq_self, not_true_eq_false, not_false_eq_true, isB_0, isB_1, Bool.false_eq_true, true_and, and_true, false_and, and_false, and_self, Nat.one_ne_zero, Nat.zero_ne_one, reduceIte]
  · unfold bT; rw [u2_k (by decide)]; exact kc
  · unfold bT
    rw [ix_n (by omega)]
    by_cases e : k = L
    · subst e; rw [u2_s, nar_all x (by omega)]; simp only [if_true]; exact ⟨trivial, hx⟩
    · rw [u2_j e]; simp only [e, if_false]; exact kr k (by omega)
  · unfold bT
    rw [ix_n (by omega)]
    by_cases e : k = L
    · subst e; rw [u2_s, nar_all x (by omega)]; exact ⟨x, hx, rfl⟩
    · rw [u2_j e]; exact kf k hk
  · unfold bT; rw [u2_k (by decide)]; exact g4
  · unfold bT; rw [u2_k (by decide)]; exact g5
theorem g_len_t {L cap : Nat} {ch : Nat → Nat} (h : TB T M 370 372 0 L cap ch) : F_J4_length_8abf5_t n T M = some (nI L) := by
  unfold F_J4_length_8abf5_t F_J5_length_8abf5_t
  rw [h.2.1]
  rfl
theorem g_at_t {L cap k : Nat} {ch : Nat → Nat} (h : TB T M 370 372 0 L cap ch) (hk : k < L) : F_J4_charAt_5068e_t n T (nI k) M = some (nI (ch k)) ∧ ch k ≤ 126 := by
  obtain ⟨h1, h3, hc, hl, h7, hr, hf⟩ := h
  have hB : ∀ k : Nat, 0 ≤ k := fun _ => Nat.zero_le _
  obtain ⟨c, c1, c2⟩ := hf k (by omega)
  have hch := hr k hk
  unfold F_J4_charAt_5068e_t F_J5_charAt_5068e_t F_J0_checkIndex_df160 F_J3_checkIndex_8e157
  have hmin : ¬ cap < L := by omega
  have hcb : cap < 2147483648 := by omega
  have hin : inb (nI k) cap = true := inb_n (by omega) (by omega)
  have hcc := ch_all (ch k) (by omega)
  have hic := isC_all (ch k) (by omega)
  refine ⟨?_, hch.2⟩
  simp (disch := first | omega | exact hB _) only [h1, h3, hc, sh0r, hmin, hch.1, hcc, hic, Nat.not_lt_zero, hk, hin, ob_s, ob2_s, chk_t, lt_s', litI, n_add, n_mul, n_sub, inb_n, ix_n, n_le, n_lt, n_eq, n_bit, n_m1_lt, n_m1_eq, n_m1_m, n_ne_m, n_m_ne, n_m_lt0, n_0_le_m, if_true, if_false, eq_self, not_true_eq_false, not_false_eq_true, isB_0, isB_1, Bool.false_eq_true, true_and, and_true, false_and, and_false, and_self, Nat.one_ne_zero, Nat.zero_ne_one, reduceIte]
theorem g_ens_l {L cap need : Nat} {ch : Nat → Nat} (h : TB T M 371 373 1 L cap ch) (hn : need ≤ 68) (hL : cap < need → need ≤ 2 * cap + 1) : ∃ T' cap', Fg_J5_ensureCapacityInternal_d00df_l n T (nI need) M = some ((), T', M) ∧ TB T' M 371 373 1 L cap' ch ∧ need ≤ cap' ∧ T' 372 = T 372 ∧ T' 374 0 = T 374 0 := by
  obtain ⟨h1, h3, hc, hl, h7, hr, hf⟩ := h
  have hB : ∀ k : Nat, 0 ≤ k := fun _ => Nat.zero_le _
  have hcb : cap < 2147483648 := by omega
  unfold Fg_J5_ensureCapacityInternal_d00df_l
  rw [hc, h1, ix_n hcb, litN, sh0r hcb, lt_s', litN]
  by_cases e : need ≤ cap
  · rw [if_pos (by rw [n_sub0 (by omega) hcb]; exact e)]
    exact ⟨T, cap, rfl, ⟨h1, h3, hc, hl, h7, hr, hf⟩, e, rfl, rfl⟩
  · have hne := hL (by omega)
    have e2 : nI need - nI cap = nI (need - cap) := n_sub (by omega)
    have hcap : F_J5_newCapacity_0f7a4_l n T (nI need) M = some (nI (2 * cap + 2)) := by
      have p1 : ¬ 2 * cap + 2 ≤ 0 := by omega
      have p2 : ¬ 2147483639 < 2 * cap + 2 := by omega
      have p3 : need - cap < cap + 2 := by omega
      have p4 : cap + (cap + 2) = 2 * cap + 2 := by omega
      have p5 : ¬ 2 * cap + 2 = 2147483647 := by omega
      unfold F_J5_newCapacity_0f7a4_l F_J8_newLength_cabcc
      simp (disch := first | omega | exact hB _) only [hc, h1, sh0l, sh0r, p1, p2, p3, p4, p5, ob_s, ob2_s, chk_t, lt_s', litI, n_add, n_mul, n_sub, inb_n, ix_n, n_le, n_lt, n_eq, n_bit, n_m1_lt, n_m1_eq, n_m1_m, n_ne_m, n_m_ne, n_m_lt0, n_0_le_m, if_true, if_false, eq_self, not_true_eq_false, not_false_eq_true, isB_0, isB_1, Bool.false_eq_true, true_and, and_true, false_and, and_false, and_self, Nat.one_ne_zero, Nat.zero_ne_one, reduceIte]
    have hz : ix (nI (2 * cap + 2)) = 2 * cap + 2 := ix_n (by omega)
    have hgok : gok (T 373) cap (nI (2 * cap + 2)) = true := by
      unfold gok
      rw [hz, Bool.and_eq_true]
      refine ⟨decide_eq_true ⟨by omega, by omega, rfl⟩, List.all_eq_true.mpr (fun i hi => ?_)⟩
      obtain ⟨c, hc1, hc2⟩ := hf i (List.mem_range.mp hi)
      rw [hc2]
      exact fit_all c (by omega)
    rw [if_neg (by rw [n_sub0 (by omega) hcb]; exact e), hcap, ob_s, sh0l (by omega), hgok, chk_t, lt_s']
    refine ⟨gT T 373 1 (nI (2 * cap + 2)), 2 * cap + 2, rfl, ⟨h1, h3, ?_, by omega, by omega, fun k hk => ?_, fun k hk => ?_⟩, by omega, ?_, ?_⟩
    · unfold gT; rw [ur_s]; simp [upd]
    · unfold gT
      rw [ur_k (by decide), ur_s, hc, ix_n hcb, cpy0 (by omega)]
      exact hr k hk
    · unfold gT
      rw [ur_k (by decide), ur_s, hc, ix_n hcb]
      by_cases e4 : k < cap
      · rw [cpy0 e4]; exact hf k e4
      · exact ⟨0, by omega, by unfold va_cpy; rw [if_neg (by omega)]; rfl⟩
    · unfold gT; rw [ur_k (by decide), ur_k (by decide)]
    · unfold gT; rw [ur_s]; simp [upd]
theorem g_app_l {L cap x : Nat} {ch : Nat → Nat} (h : TB T M 371 373 1 L cap ch) (hL : L < 68) (hx : x ≤ 126) : ∃ T' cap', Fg_J4_append_cf468_l n T (nI x) M = some ((), T', up2 M 371 3 (nI (L + 1))) ∧ TB T' (up2 M 371 3 (nI (L + 1))) 371 373 1 (L + 1) cap' (fun k => if k = L then x else ch k) ∧ T' 372 = T 372 ∧ T' 374 0 = T 374 0 := by
  have h0 := h
  obtain ⟨h1, h3, hc, hl, h7, hr, hf⟩ := h0
  obtain ⟨T', cap', g1, ⟨k1, k3, kc, kl, k7, kr, kf⟩, g3, g4, g5⟩ := g_ens_l (n := n) (need := L + 1) h (by omega) (fun q => by omega)
  have hB : ∀ k : Nat, 0 ≤ k := fun _ => Nat.zero_le _
  have hx255 : ¬ 255 < x := by omega
  have hin : inb (nI L) cap' = true := inb_n (by omega) (by omega)
  refine ⟨bT T' 373 (nI L) (nI x).toInt8.toInt32, cap', ?_, ⟨by rw [u2_j (by decide)]; exact h1, u2_s, ?_, g3, k7, fun k hk => ?_, fun k hk => ?_⟩, ?_, ?_⟩
  · unfold Fg_J4_append_cf468_l Fg_J5_append_3fe6f_l F_J5_isLatin1_aae02_l F_J1_canEncode_fc78d
    rw [h3, litN, n_add, g1]
    unfold ogu
    simp (disch := first | omega | exact hB _) only [h1, h3, n10, hx255, kc, hin, ob_s, ob2_s, chk_t, lt_s', litI, n_add, n_mul, n_sub, inb_n, ix_n, n_le, n_lt, n_eq, n_bit, n_m1_lt, n_m1_eq, n_m1_m, n_ne_m, n_m_ne, n_m_lt0, n_0_le_m, if_true, if_false, eq_self, not_true_eq_false, not_false_eq_true, isB_0, isB_1, Bool.false_eq_true, true_and, and_true, false_and, and_false, and_self, Nat.one_ne_zero, Nat.zero_ne_one, reduceIte]
  · unfold bT; rw [u2_k (by decide)]; exact kc
  · unfold bT
    rw [ix_n (by omega)]
    by_cases e : k = L
    · subst e; rw [u2_s, nar_all x (by omega)]; simp only [if_true]; exact ⟨trivial, hx⟩
    · rw [u2_j e]; simp only [e, if_false]; exact kr k (by omega)
  · unfold bT
    rw [ix_n (by omega)]
    by_cases e : k = L
    · subst e; rw [u2_s, nar_all x (by omega)]; exact ⟨x, hx, rfl⟩
    · rw [u2_j e]; exact kf k hk
  · unfold bT; rw [u2_k (by decide)]; exact g4
  · unfold bT; rw [u2_k (by decide)]; exact g5
theorem g_len_l {L cap : Nat} {ch : Nat → Nat} (h : TB T M 371 373 1 L cap ch) : F_J4_length_8abf5_l n T M = some (nI L) := by
  unfold F_J4_length_8abf5_l F_J5_length_8abf5_l
  rw [h.2.1]
  rfl
theorem g_at_l {L cap k : Nat} {ch : Nat → Nat} (h : TB T M 371 373 1 L cap ch) (hk : k < L) : F_J4_charAt_5068e_l n T (nI k) M = some (nI (ch k)) ∧ ch k ≤ 126 := by
  obtain ⟨h1, h3, hc, hl, h7, hr, hf⟩ := h
  have hB : ∀ k : Nat, 0 ≤ k := fun _ => Nat.zero_le _
  obtain ⟨c, c1, c2⟩ := hf k (by omega)
  have hch := hr k hk
  unfold F_J4_charAt_5068e_l F_J5_charAt_5068e_l F_J0_checkIndex_df160 F_J3_checkIndex_8e157
  have hmin : ¬ cap < L := by omega
  have hcb : cap < 2147483648 := by omega
  have hin : inb (nI k) cap = true := inb_n (by omega) (by omega)
  have hcc := ch_all (ch k) (by omega)
  have hic := isC_all (ch k) (by omega)
  refine ⟨?_, hch.2⟩
  simp (disch := first | omega | exact hB _) only [h1, h3, hc, sh0r, hmin, hch.1, hcc, hic, Nat.not_lt_zero, hk, hin, ob_s, ob2_s, chk_t, lt_s', litI, n_add, n_mul, n_sub, inb_n, ix_n, n_le, n_lt, n_eq, n_bit, n_m1_lt, n_m1_eq, n_m1_m, n_ne_m, n_m_ne, n_m_lt0, n_0_le_m, if_true, if_false, eq_self, not_true_eq_false, not_false_eq_true, isB_0, isB_1, Bool.false_eq_true, true_and, and_true, false_and, and_false, and_self, Nat.one_ne_zero, Nat.zero_ne_one, reduceIte]
end TBS
