/-! ===== PURE: append, lineAt ===== -/
theorem ogu_s {β : Type} {u : Unit} {T M : Mem} {f : Mem → Mem → Option β} : ogu (some (u, T, M)) f = f T M := rfl
section APP
variable {n c : Nat} {T M Mm : Mem} {V : Nat → Nat}
theorem TX.go {ob bt cp row len : Nat} (h : TX T M Mm ob bt cp row len) : ∃ L cap ch, TB T M ob bt cp L cap ch ∧ L ≤ 60 ∧ Mm 0 len = nI L ∧ (∀ k, k < L → 32 ≤ ch k) ∧ ∀ k, k < L → Mm row k = nI (ch k) := by
  obtain ⟨L, cap, l1, l2, l3, h1, h3, hm, hc, hr, hf⟩ := h
  refine ⟨L, cap, fun k => (T bt k).toInt.toNat, ⟨h1, h3, hc, l2, l3, fun k hk => ?_, hf⟩, l1, hm, fun k hk => ?_, fun k hk => ?_⟩
  · obtain ⟨ch, c1, c2, c3, c4⟩ := hr k hk
    have e : (T bt k).toInt.toNat = ch := by rw [c3, n_ti (by omega)]; rfl
    show T bt k = nI (T bt k).toInt.toNat ∧ (T bt k).toInt.toNat ≤ 126
    rw [e]; exact ⟨c3, c2⟩
  · obtain ⟨ch, c1, c2, c3, c4⟩ := hr k hk
    have e : (T bt k).toInt.toNat = ch := by rw [c3, n_ti (by omega)]; rfl
    show 32 ≤ (T bt k).toInt.toNat
    rw [e]; exact c1
  · obtain ⟨ch, c1, c2, c3, c4⟩ := hr k hk
    have e : (T bt k).toInt.toNat = ch := by rw [c3, n_ti (by omega)]; rfl
    show Mm row k = nI (T bt k).toInt.toNat
    rw [e]; exact c4
theorem TX.of {ob bt cp row len L cap : Nat} {ch : Nat → Nat} (h : TB T M ob bt cp L cap ch) (hL : L ≤ 60) (hm : Mm 0 len = nI L) (h32 : ∀ k, k < L → 32 ≤ ch k) (hr : ∀ k, k < L → Mm row k = nI (ch k)) : TX T M Mm ob bt cp row len := by
  obtain ⟨h1, h3, hc, l2, l3, hr2, hf⟩ := h
  exact ⟨L, cap, hL, l2, l3, h1, h3, hm, hc, fun k hk => ⟨ch k, h32 k hk, (hr2 k hk).2, (hr2 k hk).1, hr k hk⟩, hf⟩
/-- the text or the line changes, nothing else -/
theorem Rel.tx {j : Nat} {T' M' Mm' : Mem} (h : Rel j T M Mm) (hj : j < 512) (e1 : ∀ k, k ≠ 344 → k ≠ 345 → k < 370 → M' k = M k) (f0 : ∀ i, 0 < i → i < 14 → Mm' 0 i = Mm 0 i) (f1 : ∀ k, k ≠ 0 → k ≠ 5 → k ≠ 6 → Mm' k = Mm k) (ht : TX T' M' Mm' 370 372 0 5 14) (hl : TX T' M' Mm' 371 373 1 6 17) : Rel (j + 1) T' M' Mm' := by
  obtain ⟨h0, ⟨⟨sv, Vs, s1, s2, s3, s4⟩, g1, g2, g3, g4, g5, g6⟩, V, h2, h3, h4, cnt, past, h5⟩ := h
  refine ⟨by omega, ⟨⟨sv, Vs, s1, by rw [f0 4 (by decide) (by decide)]; exact s2, by rw [e1 0 (by decide) (by decide) (by decide)]; exact s3, fun hs => ⟨(s4 hs).1.mono (by omega), (s4 hs).2.1.cong (s4 hs).1 (fun k a1 a2 => e1 k (by omega) (by omega) (by omega)), by rw [f1 3 (by decide) (by decide) (by decide)]; exact (s4 hs).2.2⟩⟩, ?_, ?_, ht, hl, by rw [f1 8 (by decide) (by decide) (by decide)]; exact g5, by rw [f1 9 (by decide) (by decide) (by decide)]; exact g6⟩, V, h2.fr (f1 1 (by decide) (by decide) (by decide)), h3.mono (by omega), h4.cong h3 (fun k a1 a2 => e1 k (by omega) (by omega) (by omega)), cnt, past, h5.fr (by omega) (fun k a1 a2 => e1 k (by omega) (by omega) (by omega)) (f0 1 (by decide) (by decide)) (f1 4 (by decide) (by decide) (by decide))⟩
  · rw [e1 0 (by decide) (by decide) (by decide), f0 2 (by decide) (by decide)]; exact g1
  · rw [e1 0 (by decide) (by decide) (by decide), f0 3 (by decide) (by decide)]; exact g2
theorem TX.other {T' M' Mm' : Mem} {ob bt cp row len : Nat} (h : TX T M Mm ob bt cp row len) (e1 : M' ob = M ob) (e2 : Mm' 0 len = Mm 0 len) (e3 : Mm' row = Mm row) (e4 : T' bt = T bt) (e5 : T' 374 cp = T 374 cp) : TX T' M' Mm' ob bt cp row len := by
  unfold TX
  rw [e1, e2, e3, e4, e5]
  exact h
theorem sc_append : SC_append n Rel := by
  intro j T M Mm x1 hj h hisC
  obtain ⟨_, ⟨_, _, _, ht, hl, _⟩, _⟩ := id h
  obtain ⟨L, cap, ch, hT, hL, hlen, h32, hrow⟩ := ht.go
  have hB : ∀ k : Nat, 0 ≤ k := fun _ => Nat.zero_le _
  have bad : ∀ (hc : (if x1 < nI 32 then (some (Sum.inl 1, T, M) : Option (RX Int32 × Mem × Mem)) else (if x1 ≤ nI 126 then ob (F_J4_length_8abf5_t n T M) (fun r_4 => (if r_4 < 60 then ogu (Fg_J4_append_cf468_t n T x1 M) (fun T_7 M_8 => ob (F_J4_length_8abf5_t n T_7 M_8) (fun r_12 => some (.inr r_12, T_7, M_8))) else some (.inl 0, T, M))) else some (.inl 1, T, M))) = some (.inl 1, T, M)) (hi : F_X10_isIn n x1 (nI 32) (nI 126) Mm = some (nI 0)), ∃ (q0 : RX Int32) (T' : Mem) (M' : Mem) (v : Int32) (Mm' : Mem), Fg_X9_append n T x1 M = some (q0, T', M') ∧ F_X10_append n x1 Mm = some (v, Mm') ∧ (∀ k, q0 = .inl k → k = 1 ∨ k = 0) ∧ Mm' 0 0 = cx [1, 0] q0 ∧ (∀ w, q0 = .inr w → w = v) ∧ (∀ k, q0 = .inl k → T' = T) ∧ Rel (j + 1) T' M' Mm' := fun hc hi => by
    refine ⟨.inl 1, T, M, nI 0, up2 Mm 0 0 (nI 1), ?_, ?_, fun k hk => .inl (Sum.inl.inj hk).symm, ?_, no_r, fun _ _ => rfl, h.thr hj⟩
    · unfold Fg_X9_append
      exact hc
    · unfold F_X10_append
      simp (disch := first | omega | exact hB _) only [hi, u2_s, n10, ob_s, ob2_s, chk_t, lt_s', litI, n_add, n_mul, n_sub, inb_n, ix_n, n_le, n_lt, n_eq, n_bit, n_m1_lt, n_m1_eq, n_m1_m, n_ne_m, n_m_ne, n_m_lt0, n_0_le_m, if_true, if_false, eq_self, not_true_eq_false, not_false_eq_true, isB_0, isB_1, Bool.false_eq_true, true_and, and_true, false_and, and_false, and_self, Nat.one_ne_zero, Nat.zero_ne_one, reduceIte]
    · rw [u2_s]; rfl
  rcases i_or x1 with h1 | ⟨x, hx, rfl⟩
  · refine bad ?_ (R_isIn_neg h1 (by decide))
    have h2 := neg_lt (v := 32) h1 (by decide)
    simp (disch := first | omega | exact hB _) only [h2, ob_s, ob2_s, chk_t, lt_s', litI, n_add, n_mul, n_sub, inb_n, ix_n, n_le, n_lt, n_eq, n_bit, n_m1_lt, n_m1_eq, n_m1_m, n_ne_m, n_m_ne, n_m_lt0, n_0_le_m, if_true, if_false, eq_self, not_true_eq_false, not_false_eq_true, isB_0, isB_1, Bool.false_eq_true, true_and, and_true, false_and, and_false, and_self, Nat.one_ne_zero, Nat.zero_ne_one, reduceIte]
  by_cases hx1 : 32 ≤ x ∧ x ≤ 126
  · have hin : F_X10_isIn n (nI x) (nI 32) (nI 126) Mm = some (nI 1) := by rw [R_isIn hx (by decide) (by decide), if_pos hx1]
    have hx32 : ¬ x < 32 := by omega
    by_cases h60 : L = 60
    · have hln : F_J4_length_8abf5_t n T M = some (nI 60) := by rw [g_len_t hT, h60]
      rw [h60] at hlen
      refine ⟨.inl 0, T, M, nI 0, up2 Mm 0 0 (nI 2), ?_, ?_, fun k hk => .inr (Sum.inl.inj hk).symm, ?_, no_r, fun _ _ => rfl, h.thr hj⟩
      · unfold Fg_X9_append
        simp (disch := first | omega | exact hB _) only [hx32, hx1.2, hln, Nat.lt_irrefl, ob_s, ob2_s, chk_t, lt_s', litI, n_add, n_mul, n_sub, inb_n, ix_n, n_le, n_lt, n_eq, n_bit, n_m1_lt, n_m1_eq, n_m1_m, n_ne_m, n_m_ne, n_m_lt0, n_0_le_m, if_true, if_false, eq_self, not_true_eq_false, not_false_eq_true, isB_0, isB_1, Bool.false_eq_true, true_and, and_true, false_and, and_false, and_self, Nat.one_ne_zero, Nat.zero_ne_one, reduceIte]
      · unfold F_X10_append
        simp (disch := first | omega | exact hB _) only [hin, n10, hlen, u2_s, ob_s, ob2_s, chk_t, lt_s', litI, n_add, n_mul, n_sub, inb_n, ix_n, n_le, n_lt, n_eq, n_bit, n_m1_lt, n_m1_eq, n_m1_m, n_ne_m, n_m_ne, n_m_lt0, n_0_le_m, if_true, if_false, eq_self, not_true_eq_false, not_false_eq_true, isB_0, isB_1, Bool.false_eq_true, true_and, and_true, false_and, and_false, and_self, Nat.one_ne_zero, Nat.zero_ne_one, reduceIte]
        rfl
      · rw [u2_s]; rfl
    · obtain ⟨T', cap', a1, a2, a3, a4⟩ := g_app_t (n := n) (x := x) hT (by omega) hx1.2
      have hlt : L < 60 := by omega
      have e13 : ∀ k, k ≠ 0 → k ≠ 5 → (up2 (up2 (up2 Mm 0 0 (nI 0)) 5 L (nI x)) 0 14 (nI (L + 1))) k = Mm k := fun k b1 b2 => by rw [u2_k b1, u2_k b2, u2_k b1]
      refine ⟨.inr (nI (L + 1)), T', _, nI (L + 1), up2 (up2 (up2 Mm 0 0 (nI 0)) 5 L (nI x)) 0 14 (nI (L + 1)), ?_, ?_, no_l, ?_, fun w hw => (Sum.inr.inj hw).symm, fun k hk => (nomatch hk), h.tx hj (fun k b1 b2 b3 => u2_k (by omega)) (fun i b1 b2 => by rw [u2_j (by omega), u2_k (by decide), u2_j (by omega)]) (fun k b1 b2 b3 => e13 k b1 b2) (TX.of a2 (by omega) u2_s (fun k hk => ?_) (fun k hk => ?_)) (hl.other (u2_k (by decide)) (by rw [u2_j (by decide), u2_k (by decide), u2_j (by decide)]) (e13 6 (by decide) (by decide)) a3 a4)⟩
      · unfold Fg_X9_append
        simp (disch := first | omega | exact hB _) only [hx32, hx1.2, g_len_t hT, hlt, a1, ob_s, ob2_s, chk_t, lt_s', litI, n_add, n_mul, n_sub, inb_n, ix_n, n_le, n_lt, n_eq, n_bit, n_m1_lt, n_m1_eq, n_m1_m, n_ne_m, n_m_ne, n_m_lt0, n_0_le_m, if_true, if_false, eq_self, not_true_eq_false, not_false_eq_true, isB_0, isB_1, Bool.false_eq_true, true_and, and_true, false_and, and_false, and_self, Nat.one_ne_zero, Nat.zero_ne_one, reduceIte]
        rw [ogu_s, g_len_t a2]
        rfl
      · unfold F_X10_append
        simp (disch := first | omega | exact hB _) only [hin, n10, hlen, u2_s, u2_j, u2_k, h60, ob_s, ob2_s, chk_t, lt_s', litI, n_add, n_mul, n_sub, inb_n, ix_n, n_le, n_lt, n_eq, n_bit, n_m1_lt, n_m1_eq, n_m1_m, n_ne_m, n_m_ne, n_m_lt0, n_0_le_m, if_true, if_false, eq_self, not_true_eq_false, not_false_eq_true, isB_0, isB_1, Bool.false_eq_true, true_and, and_true, false_and, and_false, and_self, Nat.one_ne_zero, Nat.zero_ne_one, reduceIte]
      · rw [u2_j (by decide), u2_k (by decide), u2_s]; rfl
      · by_cases e : k = L
        · simp only [e, if_true]; exact hx1.1
        · simp only [e, if_false]; exact h32 k (by omega)
      · rw [u2_k (by decide)]
        by_cases e : k = L
        · simp only [e, if_true]; rw [u2_s]
        · simp only [e, if_false]; rw [u2_j e, u2_k (by decide)]; exact hrow k (by omega)
  · refine bad ?_ (by rw [R_isIn hx (by decide) (by decide), if_neg hx1])
    by_cases h3 : x < 32
    · simp (disch := first | omega | exact hB _) only [h3, ob_s, ob2_s, chk_t, lt_s', litI, n_add, n_mul, n_sub, inb_n, ix_n, n_le, n_lt, n_eq, n_bit, n_m1_lt, n_m1_eq, n_m1_m, n_ne_m, n_m_ne, n_m_lt0, n_0_le_m, if_true, if_false, eq_self, not_true_eq_false, not_false_eq_true, isB_0, isB_1, Bool.false_eq_true, true_and, and_true, false_and, and_false, and_self, Nat.one_ne_zero, Nat.zero_ne_one, reduceIte]
    · have h4 : ¬ x ≤ 126 := by omega
      simp (disch := first | omega | exact hB _) only [h3, h4, ob_s, ob2_s, chk_t, lt_s', litI, n_add, n_mul, n_sub, inb_n, ix_n, n_le, n_lt, n_eq, n_bit, n_m1_lt, n_m1_eq, n_m1_m, n_ne_m, n_m_ne, n_m_lt0, n_0_le_m, if_true, if_false, eq_self, not_true_eq_false, not_false_eq_true, isB_0, isB_1, Bool.false_eq_true, true_and, and_true, false_and, and_false, and_self, Nat.one_ne_zero, Nat.zero_ne_one, reduceIte]
theorem c16 : ∀ c, c < 127 → ((nI c).toUInt32 % 65536).toInt32 = nI c := by decide +kernel
theorem sc_lineAt : SC_lineAt n Rel := by
  intro j T M Mm x1 hj h
  obtain ⟨_, ⟨_, _, _, ht, hl, _⟩, _⟩ := id h
  obtain ⟨L, cap, ch, hT, hL, hlen, h32, hrow⟩ := hl.go
  have hB : ∀ k : Nat, 0 ≤ k := fun _ => Nat.zero_le _
  have hln := g_len_l (n := n) hT
  have refuse : ∀ (hc : F_X9_lineAt n T x1 M = some (.inl 2)) (hi : F_X10_isIn n x1 (nI 0) (nI L - nI 1) Mm = some (nI 0)), ∃ (q0 : RX Int32) (v : Int32) (Mm' : Mem), F_X9_lineAt n T x1 M = some q0 ∧ F_X10_lineAt n x1 Mm = some (v, Mm') ∧ (∀ k, q0 = .inl k → k = 2) ∧ Mm' 0 0 = cx [2] q0 ∧ (∀ w, q0 = .inr w → w = v) ∧ Rel (j + 1) T M Mm' := fun hc hi => by
    refine ⟨.inl 2, nI 97, up2 Mm 0 0 (nI 1), hc, ?_, fun k hk => Sum.inl.inj hk ▸ rfl, ?_, no_r, h.thr hj⟩
    · unfold F_X10_lineAt
      rw [hlen, litN, litN, hi, ob_s]
      simp (disch := first | omega | exact hB _) only [u2_s, n10, ob_s, ob2_s, chk_t, lt_s', litI, n_add, n_mul, n_sub, inb_n, ix_n, n_le, n_lt, n_eq, n_bit, n_m1_lt, n_m1_eq, n_m1_m, n_ne_m, n_m_ne, n_m_lt0, n_0_le_m, if_true, if_false, eq_self, not_true_eq_false, not_false_eq_true, isB_0, isB_1, Bool.false_eq_true, true_and, and_true, false_and, and_false, and_self, Nat.one_ne_zero, Nat.zero_ne_one, reduceIte]
    · rw [u2_s]; rfl
  rcases i_or x1 with h1 | ⟨x, hx, rfl⟩
  · refine refuse ?_ ?_
    · unfold F_X9_lineAt
      simp (disch := first | omega | exact hB _) only [h1, ob_s, ob2_s, chk_t, lt_s', litI, n_add, n_mul, n_sub, inb_n, ix_n, n_le, n_lt, n_eq, n_bit, n_m1_lt, n_m1_eq, n_m1_m, n_ne_m, n_m_ne, n_m_lt0, n_0_le_m, if_true, if_false, eq_self, not_true_eq_false, not_false_eq_true, isB_0, isB_1, Bool.false_eq_true, true_and, and_true, false_and, and_false, and_self, Nat.one_ne_zero, Nat.zero_ne_one, reduceIte]
    · unfold F_X10_isIn
      simp only [h1, if_true]
      rfl
  by_cases hxL : x < L
  · obtain ⟨a1, a2⟩ := g_at_l (n := n) hT hxL
    have hic := isC_all (ch x) (by omega)
    have hc16 := c16 (ch x) (by omega)
    have hi : F_X10_isIn n (nI x) (nI 0) (nI L - nI 1) Mm = some (nI 1) := by
      rw [n_sub (by omega), R_isIn hx (by decide) (by omega), if_pos ⟨Nat.zero_le _, by omega⟩]
    refine ⟨.inr (nI (ch x)), nI (ch x), up2 Mm 0 0 (nI 0), ?_, ?_, no_l, ?_, fun w hw => (Sum.inr.inj hw).symm, h.thr hj⟩
    · unfold F_X9_lineAt
      simp (disch := first | omega | exact hB _) only [Nat.not_lt_zero, hln, hxL, a1, hic, ob_s, ob2_s, chk_t, lt_s', litI, n_add, n_mul, n_sub, inb_n, ix_n, n_le, n_lt, n_eq, n_bit, n_m1_lt, n_m1_eq, n_m1_m, n_ne_m, n_m_ne, n_m_lt0, n_0_le_m, if_true, if_false, eq_self, not_true_eq_false, not_false_eq_true, isB_0, isB_1, Bool.false_eq_true, true_and, and_true, false_and, and_false, and_self, Nat.one_ne_zero, Nat.zero_ne_one, reduceIte]
    · unfold F_X10_lineAt
      rw [hlen, litN, litN, hi, ob_s]
      simp (disch := first | omega | exact hB _) only [n10, u2_s, u2_k, hrow, hc16, ob_s, ob2_s, chk_t, lt_s', litI, n_add, n_mul, n_sub, inb_n, ix_n, n_le, n_lt, n_eq, n_bit, n_m1_lt, n_m1_eq, n_m1_m, n_ne_m, n_m_ne, n_m_lt0, n_0_le_m, if_true, if_false, eq_self, not_true_eq_false, not_false_eq_true, isB_0, isB_1, Bool.false_eq_true, true_and, and_true, false_and, and_false, and_self, Nat.one_ne_zero, Nat.zero_ne_one, reduceIte]
    · rw [u2_s]; rfl
  · refine refuse ?_ ?_
    · unfold F_X9_lineAt
      simp (disch := first | omega | exact hB _) only [Nat.not_lt_zero, hln, hxL, ob_s, ob2_s, chk_t, lt_s', litI, n_add, n_mul, n_sub, inb_n, ix_n, n_le, n_lt, n_eq, n_bit, n_m1_lt, n_m1_eq, n_m1_m, n_ne_m, n_m_ne, n_m_lt0, n_0_le_m, if_true, if_false, eq_self, not_true_eq_false, not_false_eq_true, isB_0, isB_1, Bool.false_eq_true, true_and, and_true, false_and, and_false, and_self, Nat.one_ne_zero, Nat.zero_ne_one, reduceIte]
    · have hn2 : L < x + 1 := by omega
      unfold F_X10_isIn
      simp (disch := first | omega | exact hB _) only [Nat.not_lt_zero, hn2, ob_s, ob2_s, chk_t, lt_s', litI, n_add, n_mul, n_sub, inb_n, ix_n, n_le, n_lt, n_eq, n_bit, n_m1_lt, n_m1_eq, n_m1_m, n_ne_m, n_m_ne, n_m_lt0, n_0_le_m, if_true, if_false, eq_self, not_true_eq_false, not_false_eq_true, isB_0, isB_1, Bool.false_eq_true, true_and, and_true, false_and, and_false, and_self, Nat.one_ne_zero, Nat.zero_ne_one, reduceIte]
end APP
