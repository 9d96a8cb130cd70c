/-! ===== PURE: reading a number, both sides ===== -/
abbrev dg (ch : Nat → Nat) (L p : Nat) : Prop := p < L ∧ 48 ≤ ch p ∧ ch p ≤ 57
/-- how many digits (of at most m) stand at p, and what they say -/
def nc (ch : Nat → Nat) (L p m : Nat) : Nat := if dg ch L p then (if 2 ≤ m ∧ dg ch L (p + 1) then 2 else 1) else 0
def nv (ch : Nat → Nat) (L p m : Nat) : Nat := if dg ch L p then (if 2 ≤ m ∧ dg ch L (p + 1) then 10 * (ch p - 48) + (ch (p + 1) - 48) else ch p - 48) else 0
section NUMR
variable {n : Nat} {T M : Mem}
theorem C_dg {L cap p : Nat} {ch : Nat → Nat} (h : TB T M 370 372 0 L cap ch) (hp : M 346 2 = nI p) (hpL : p < 65536) : ∃ r, F_X4_charAtPosition n T 346 M = some (nI r) ∧ r < 65536 ∧ F_X4_isDigit n (nI r) M = some (if dg ch L p then nI 1 else nI 0) ∧ (dg ch L p → r = ch p) := by
  have hlb : L ≤ 70 := by have := h.2.2.2.1; have := h.2.2.2.2.1; omega
  by_cases e : p < L
  · have hb := (g_at_t (n := n) h e).2
    refine ⟨ch p, by rw [C_char h hp hpL, if_pos e], by omega, ?_, fun _ => rfl⟩
    rw [C_digit (by omega)]
    by_cases z : 48 ≤ ch p ∧ ch p ≤ 57
    · rw [if_pos z, if_pos ⟨e, z⟩]
    · rw [if_neg z, if_neg (fun q => z q.2)]
  · refine ⟨0, by rw [C_char h hp hpL, if_neg e], by decide, ?_, fun q => absurd q.1 e⟩
    rw [C_digit (by decide), if_neg (by omega), if_neg (fun q => e q.1)]
theorem C_addN {o3 q v : Nat} (h : M o3 2 = nI q) (hq : q < 4) : F_X3_addNumber n o3 (nI v) M = some (up2 (up2 M (o3 + 1) q (nI v)) o3 2 (nI (q + 1))) := by
  unfold F_X3_addNumber
  rw [h, if_neg (by rw [litN, n_le (by decide) (by omega)]; omega), inb_n hq (by decide), chk_t, ix_n (by omega), lt_s', u2_k (by omega), h, litN, n_add, lt_s']
end NUMR
