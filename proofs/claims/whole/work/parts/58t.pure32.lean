section NUMC
variable {n : Nat} {T M : Mem}
theorem TB.fr {M' : Mem} {ob bt cp L cap : Nat} {ch : Nat → Nat} (h : TB T M ob bt cp L cap ch) (e : M' ob = M ob) : TB T M' ob bt cp L cap ch := by
  unfold TB
  rw [e]
  exact h
def enN (M : Mem) (o3 q v : Nat) : Mem := up2 (up2 M (o3 + 1) q (nI v)) o3 2 (nI (q + 1))
theorem num_no {L cap p m t v o3 q k : Nat} {ch : Nat → Nat} (h : TB T M 370 372 0 L cap ch) (hp : M 346 2 = nI p) (hpL : p < 65536) (ho : M o3 2 = nI q) (hq : q < 4) (ht : t < m) (hm : m ≤ 2) (hd : ¬ dg ch L p) : F_X4_readNumber_L6 n T 346 o3 (k + 1) (nI m) (nI t) (nI v) M = some (if t = 0 then nI 0 else nI 1, enN M o3 q v) := by
  obtain ⟨r, r1, r2, r3, r4⟩ := C_dg (n := n) h hp hpL
  rw [if_neg hd] at r3
  rw [F_X4_readNumber_L6, if_neg (by rw [n_le (by omega) (by omega)]; omega), r1, ob_s, r3, ob_s, if_pos (by rfl), C_addN ho hq, ob_s]
  by_cases e : t = 0
  · rw [if_pos (by rw [litN, n_le (by omega) (by decide)]; omega), if_pos e]
    rfl
  · rw [if_neg (by rw [litN, n_le (by omega) (by decide)]; omega), if_neg e]
    rfl
theorem num_full {m v o3 q k : Nat} (ho : M o3 2 = nI q) (hq : q < 4) (hm : m ≤ 2) (hm0 : 0 < m) : F_X4_readNumber_L6 n T 346 o3 (k + 1) (nI m) (nI m) (nI v) M = some (nI 1, enN M o3 q v) := by
  rw [F_X4_readNumber_L6, if_pos (by rw [n_le (by omega) (by omega)]; exact Nat.le_refl _), C_addN ho hq, ob_s, if_neg (by rw [litN, n_le (by omega) (by decide)]; omega)]
  rfl
theorem num_yes {L cap p m t v o3 k : Nat} {ch : Nat → Nat} (h : TB T M 370 372 0 L cap ch) (hp : M 346 2 = nI p) (hpL : p < 65535) (ht : t < m) (hm : m ≤ 2) (hv : v < 1000) (hd : dg ch L p) : F_X4_readNumber_L6 n T 346 o3 (k + 1) (nI m) (nI t) (nI v) M = F_X4_readNumber_L6 n T 346 o3 k (nI m) (nI (t + 1)) (nI (10 * v + (ch p - 48))) (up2 M 346 2 (nI (p + 1))) := by
  obtain ⟨r, r1, r2, r3, r4⟩ := C_dg (n := n) h hp (by omega)
  have hr := r4 hd
  subst hr
  rw [if_pos hd] at r3
  have e1 : (10 : Int32) * nI v + (nI (ch p) - 48) = nI (10 * v + (ch p - 48)) := by
    have e48 : nI (ch p) - 48 = nI (ch p - 48) := by rw [litN]; exact n_sub (by have := hd.2.1; omega)
    rw [e48, litN, n_mul, n_add]
  have e2 : nI t + 1 = nI (t + 1) := by rw [litN, n_add]
  have e3 : nI p + 1 = nI (p + 1) := by rw [litN, n_add]
  rw [F_X4_readNumber_L6, if_neg (by rw [n_le (by omega) (by omega)]; omega), r1, ob_s, r3, ob_s, if_neg (by rw [litN, n10]; exact id), ob_s, lt_s', e1, hp, lt_s', e3, lt_s', e2]
/-- the class reads a number of at most m digits -/
theorem C_num {L cap p m o3 q : Nat} {ch : Nat → Nat} (hn : 14 ≤ n) (h : TB T M 370 372 0 L cap ch) (hp : M 346 2 = nI p) (hpL : p < 65000) (ho : M o3 2 = nI q) (hq : q < 4) (hm : m = 1 ∨ m = 2) (h3 : o3 ≠ 346) (h37 : o3 < 369) : F_X4_readNumber n T 346 (nI m) o3 M = some (if nc ch L p m = 0 then nI 0 else nI 1, enN (if nc ch L p m = 0 then M else up2 M 346 2 (nI (p + nc ch L p m))) o3 q (nv ch L p m)) := by
  obtain ⟨n', rfl⟩ : ∃ n', n = n' + 3 := ⟨n - 3, by omega⟩
  show F_X4_readNumber_L6 (n' + 3) T 346 o3 (n' + 2 + 1) (nI m) (nI 0) (nI 0) M = _
  unfold nc nv
  by_cases d0 : dg ch L p
  · have h1 : TB T (up2 M 346 2 (nI (p + 1))) 370 372 0 L cap ch := h.fr (u2_k (by decide))
    have ho1 : (up2 M 346 2 (nI (p + 1))) o3 2 = nI q := by rw [u2_k h3]; exact ho
    rw [num_yes h hp (by omega) (by omega) (by omega) (by decide) d0, if_pos d0, if_pos d0]
    by_cases d1 : 2 ≤ m ∧ dg ch L (p + 1)
    · have hm2 : m = 2 := by omega
      subst hm2
      have hu : up2 (up2 M 346 2 (nI (p + 1))) 346 2 (nI (p + 1 + 1)) = up2 M 346 2 (nI (p + 2)) := by
        funext k jj
        rw [u2_if, u2_if, u2_if]
        by_cases a1 : k = 346 <;> by_cases a2 : jj = 2 <;> simp [a1, a2]
      rw [num_yes (k := n' + 1) h1 u2_s (by omega) (by decide) (by decide) (by have := d0.2; omega) d1.2, if_pos d1, if_pos d1, hu, num_full (k := n') (by rw [u2_k h3]; exact ho) hq (by decide) (by decide), if_neg (by decide), if_neg (by decide), Nat.mul_zero, Nat.zero_add]
    · rw [if_neg d1, if_neg d1, if_neg (by decide), if_neg (by decide)]
      rcases hm with rfl | rfl
      · rw [num_full (k := n' + 1) ho1 hq (by decide) (by decide)]
        simp
      · rw [num_no (k := n' + 1) h1 u2_s (by omega) ho1 hq (by decide) (by decide) (fun z => d1 ⟨by decide, z⟩), if_neg (by decide)]
        simp
  · rw [num_no h hp (by omega) ho hq (by omega) (by omega) d0, if_neg d0, if_neg d0]
    rfl
end NUMC
