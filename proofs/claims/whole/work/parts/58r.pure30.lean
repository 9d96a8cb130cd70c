/-! ===== PURE: reading a character, both sides ===== -/
section CHR
variable {n : Nat} {T M : Mem}
theorem C_char {L cap p : Nat} {ch : Nat → Nat} (h : TB T M 370 372 0 L cap ch) (hp : M 346 2 = nI p) (hpL : p < 65536) : F_X4_charAtPosition n T 346 M = some (if p < L then nI (ch p) else nI 0) := by
  have hlb : L ≤ 70 := by have := h.2.2.2.1; have := h.2.2.2.2.1; omega
  unfold F_X4_charAtPosition
  rw [g_len_t h, ob_s, hp]
  by_cases e : p < L
  · obtain ⟨a1, a2⟩ := g_at_t (n := n) h e
    rw [if_neg (by rw [n_le (by omega) (by omega)]; omega), a1, ob_s, isC_all _ (by omega), chk_t, if_pos e]
  · rw [if_pos (by rw [n_le (by omega) (by omega)]; omega), if_neg e]
    rfl
theorem R_sign {L p : Nat} {ch : Nat → Nat} (hL : L ≤ 60) (hp : p < 65536) (h16 : M 0 16 = nI L) (h15 : M 0 15 = nI p) (hr : ∀ k, k < L → M 5 k = nI (ch k)) : F_X10_sign n M = some (if p < L then nI (ch p) else -nI 1) := by
  unfold F_X10_sign
  rw [h16, h15]
  by_cases e : p < L
  · rw [if_neg (by rw [n_le (by omega) (by omega)]; omega), inb_n (by omega) (by decide), chk_t, ix_n (by omega), hr p e, if_pos e]
  · rw [if_pos (by rw [n_le (by omega) (by omega)]; omega), if_neg e]
    rfl
theorem C_digit {x : Nat} (hx : x < 65536) : F_X4_isDigit n (nI x) M = some (if 48 ≤ x ∧ x ≤ 57 then nI 1 else nI 0) := by
  have hB : ∀ k : Nat, 0 ≤ k := fun _ => Nat.zero_le _
  unfold F_X4_isDigit
  simp (disch := first | omega | exact hB _) only [ob_s, ob2_s, chk_t, lt_s', litI, n_add, n_mul, n_sub, inb_n, ix_n, n_le, n_lt, n_eq, n_bit, n_m1_lt, n_m1_eq, n_m1_m, n_ne_m, n_m_ne, n_m_lt0, n_0_le_m, if_true, if_false, eq_self, not_true_eq_false, not_false_eq_true, isB_0, isB_1, Bool.false_eq_true, true_and, and_true, false_and, and_false, and_self, Nat.one_ne_zero, Nat.zero_ne_one, reduceIte]
  by_cases e : x < 48
  · rw [if_pos e, if_neg (by omega)]
  · rw [if_neg e]
    by_cases e2 : 57 < x
    · rw [if_pos e2, if_neg (by omega)]
    · rw [if_neg e2, if_pos (by omega)]
end CHR
