/-! ===== PURE: the reference reads a number ===== -/
section NUMX
variable {n : Nat} {M : Mem}
/-- the reference at the place p of its text, nothing wrong so far -/
def RT (M : Mem) (L p : Nat) (ch : Nat → Nat) : Prop := L ≤ 60 ∧ M 0 16 = nI L ∧ M 0 15 = nI p ∧ M 0 18 = nI 0 ∧ (∀ k, k < L → M 5 k = nI (ch k)) ∧ ∀ k, k < L → ch k ≤ 126
theorem or_nI01 : nI 0 ||| 1 = nI 1 := by decide
theorem or_nI00 : nI 0 ||| 0 = nI 0 := by decide
theorem R_dg {L p : Nat} {ch : Nat → Nat} (h : RT M L p ch) (hp : p < 65536) : ∃ x : Int32, F_X10_sign n M = some x ∧ F_X10_isIn n x 48 57 M = some (if dg ch L p then nI 1 else nI 0) ∧ (dg ch L p → x = nI (ch p)) := by
  obtain ⟨hL, h16, h15, h18, hr, hc⟩ := h
  by_cases e : p < L
  · refine ⟨nI (ch p), by rw [R_sign hL hp h16 h15 hr, if_pos e], ?_, fun _ => rfl⟩
    have hb := hc p e
    have q : F_X10_isIn n (nI (ch p)) (nI 48) (nI 57) M = _ := R_isIn (by omega) (by decide) (by decide)
    rw [litN, litN, q]
    by_cases z : 48 ≤ ch p ∧ ch p ≤ 57
    · rw [if_pos z, if_pos ⟨e, z⟩]
    · rw [if_neg z, if_neg (fun q => z q.2)]
  · refine ⟨-nI 1, by rw [R_sign hL hp h16 h15 hr, if_neg e], ?_, fun q => absurd q.1 e⟩
    rw [if_neg (fun q => e q.1)]
    have q : F_X10_isIn n (-nI 1) (nI 48) (nI 57) M = some (nI 0) := R_isIn_neg (by decide) (by decide)
    exact q
theorem dn_full {L p m v k : Nat} {ch : Nat → Nat} (h : RT M L p ch) (hm : 0 < m) (hm2 : m ≤ 2) : F_X10_digits_L4 n (k + 1) (nI m) (nI v) (nI m) M = some (nI v, up2 M 0 18 (nI 0)) := by
  obtain ⟨hL, h16, h15, h18, hr, hc⟩ := h
  rw [F_X10_digits_L4, h18, if_pos (by rfl), if_pos (by rw [n_le (by omega) (by omega)]; exact Nat.le_refl _), if_neg (by rw [litN, n_eq (by omega) (by decide)]; omega), or_nI00]
  rfl
theorem dn_no {L p m t v k : Nat} {ch : Nat → Nat} (h : RT M L p ch) (hp : p < 65536) (ht : t < m) (hm2 : m ≤ 2) (hd : ¬ dg ch L p) : F_X10_digits_L4 n (k + 1) (nI m) (nI v) (nI t) M = some (nI v, up2 M 0 18 (nI (if t = 0 then 1 else 0))) := by
  obtain ⟨x, x1, x2, x3⟩ := R_dg (n := n) h hp
  rw [if_neg hd] at x2
  have h18 := h.2.2.2.1
  rw [F_X10_digits_L4, if_pos (by rw [h18]; rfl), if_neg (by rw [n_le (by omega) (by omega)]; omega), x1, ob_s, x2, ob_s, if_pos (by rfl), h18, or_nI01, or_nI00]
  by_cases e : t = 0
  · rw [if_pos (by rw [litN, n_eq (by omega) (by decide)]; exact e), if_pos e]
    rfl
  · rw [if_neg (by rw [litN, n_eq (by omega) (by decide)]; exact e), if_neg e]
    rfl
theorem dn_yes {L p m t v k : Nat} {ch : Nat → Nat} (h : RT M L p ch) (hp : p < 65535) (ht : t < m) (hm2 : m ≤ 2) (hv : v < 1000) (hd : dg ch L p) : F_X10_digits_L4 n (k + 1) (nI m) (nI v) (nI t) M = F_X10_digits_L4 n k (nI m) (nI (10 * v + (ch p - 48))) (nI (t + 1)) (up2 M 0 15 (nI (p + 1))) ∧ RT (up2 M 0 15 (nI (p + 1))) L (p + 1) ch := by
  obtain ⟨x, x1, x2, x3⟩ := R_dg (n := n) h (by omega)
  rw [if_pos hd] at x2
  have hx := x3 hd
  subst hx
  obtain ⟨hL, h16, h15, h18, hr, hc⟩ := h
  have e1 : (10 : Int32) * nI v + nI (ch p) - 48 = nI (10 * v + (ch p - 48)) := by
    have := hd.2.1
    rw [litN, n_mul, n_add, litN]
    have e : nI (10 * v + ch p) - nI 48 = nI (10 * v + ch p - 48) := n_sub (by omega)
    rw [e, show 10 * v + ch p - 48 = 10 * v + (ch p - 48) by omega]
  have e2 : nI t + 1 = nI (t + 1) := by rw [litN, n_add]
  have e3 : nI p + 1 = nI (p + 1) := by rw [litN, n_add]
  refine ⟨?_, hL, by rw [u2_j (by decide)]; exact h16, u2_s, by rw [u2_j (by decide)]; exact h18, by rw [u2_k (by decide)]; exact hr, hc⟩
  rw [F_X10_digits_L4, if_pos (by rw [h18]; rfl), if_neg (by rw [n_le (by omega) (by omega)]; omega), x1, ob_s, x2, ob_s, if_neg (by rw [litN, n10]; exact id), ob_s, lt_s', e1, h15, lt_s', e3, lt_s', e2]
end NUMX
