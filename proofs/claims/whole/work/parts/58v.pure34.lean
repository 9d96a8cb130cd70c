section NUMZ
variable {n : Nat} {M : Mem}
/-- the reference reads a number of at most m digits -/
theorem R_digits {L p m : Nat} {ch : Nat → Nat} (hn : 14 ≤ n) (h : RT M L p ch) (hp : p < 65000) (hm : m = 1 ∨ m = 2) : ∃ M', F_X10_digits n (nI m) M = some (nI (nv ch L p m), M') ∧ M' 0 15 = nI (p + nc ch L p m) ∧ M' 0 18 = nI (if nc ch L p m = 0 then 1 else 0) ∧ (∀ j, j ≠ 15 → j ≠ 18 → M' 0 j = M 0 j) ∧ ∀ k, k ≠ 0 → M' k = M k := by
  obtain ⟨n', rfl⟩ : ∃ n', n = n' + 3 := ⟨n - 3, by omega⟩
  have h15 := h.2.2.1
  have e0 : F_X10_digits (n' + 3) (nI m) M = F_X10_digits_L4 (n' + 3) (n' + 2 + 1) (nI m) (nI 0) (nI 0) M := rfl
  rw [e0]
  unfold nc nv
  by_cases d0 : dg ch L p
  · obtain ⟨y1, y2⟩ := dn_yes (n := n' + 3) (m := m) (t := 0) (v := 0) (k := n' + 2) h (by omega) (by omega) (by omega) (by decide) d0
    rw [y1, if_pos d0, if_pos d0, Nat.mul_zero, Nat.zero_add]
    by_cases d1 : 2 ≤ m ∧ dg ch L (p + 1)
    · have hm2 : m = 2 := by omega
      subst hm2
      obtain ⟨z1, z2⟩ := dn_yes (n := n' + 3) (m := 2) (t := 1) (v := ch p - 48) (k := n' + 1) y2 (by omega) (by decide) (by decide) (by have := d0.2; omega) d1.2
      rw [z1, if_pos d1, if_pos d1, dn_full (k := n') z2 (by decide) (by decide)]
      exact ⟨_, rfl, by rw [u2_j (by decide), u2_s], u2_s, fun j a b => by rw [u2_j b, u2_j a, u2_j a], fun k a => by rw [u2_k a, u2_k a, u2_k a]⟩
    · rw [if_neg d1, if_neg d1]
      rcases hm with rfl | rfl
      · rw [dn_full (k := n' + 1) y2 (by decide) (by decide)]
        exact ⟨_, rfl, by rw [u2_j (by decide), u2_s], u2_s, fun j a b => by rw [u2_j b, u2_j a], fun k a => by rw [u2_k a, u2_k a]⟩
      · rw [dn_no (k := n' + 1) y2 (by omega) (by decide) (by decide) (fun z => d1 ⟨by decide, z⟩)]
        exact ⟨_, rfl, by rw [u2_j (by decide), u2_s], u2_s, fun j a b => by rw [u2_j b, u2_j a], fun k a => by rw [u2_k a, u2_k a]⟩
  · rw [dn_no h (by omega) (by omega) (by omega) d0, if_neg d0, if_neg d0]
    exact ⟨_, rfl, by rw [u2_j (by decide), h15]; rfl, u2_s, fun j a b => by rw [u2_j b], fun k a => by rw [u2_k a]⟩
/-- a character that must stand there, both -/
theorem R_mark {L p x : Nat} {ch : Nat → Nat} (h : RT M L p ch) (hp : p < 65000) (hx : x < 127) : ∃ M', F_X10_mark n (nI x) M = some M' ∧ M' 0 15 = nI (if p < L ∧ ch p = x then p + 1 else p) ∧ M' 0 18 = nI (if p < L ∧ ch p = x then 0 else 1) ∧ (∀ j, j ≠ 15 → j ≠ 18 → M' 0 j = M 0 j) ∧ ∀ k, k ≠ 0 → M' k = M k := by
  obtain ⟨hL, h16, h15, h18, hr, hc⟩ := h
  have hs := R_sign (n := n) hL (by omega) h16 h15 hr
  unfold F_X10_mark
  rw [if_pos (by rw [h18]; rfl), hs, ob_s]
  by_cases e : p < L ∧ ch p = x
  · rw [if_pos e.1, if_pos (by rw [e.2]), if_pos e, if_pos e, lt_s', if_pos (by rw [u2_s]), lt_s']
    exact ⟨_, rfl, by rw [u2_s, u2_j (by decide), h15, litN, n_add], by rw [u2_j (by decide), u2_s]; rfl, fun j a b => by rw [u2_j a, u2_j b], fun k a => by rw [u2_k a, u2_k a]⟩
  · have hne : ¬ ((if p < L then nI (ch p) else -nI 1) = nI x) := by
      by_cases z : p < L
      · rw [if_pos z, n_eq (by have := hc p z; omega) (by omega)]
        exact fun q => e ⟨z, q⟩
      · rw [if_neg z, n_m_ne (by omega)]; exact id
    rw [if_neg hne, if_neg e, if_neg e, lt_s', if_neg (by rw [u2_s, litN, litN, n10]; exact id), lt_s']
    exact ⟨_, rfl, by rw [u2_s, u2_j (by decide), h15, litN, n_add, Nat.add_zero], by rw [u2_j (by decide), u2_s]; rfl, fun j a b => by rw [u2_j a, u2_j b], fun k a => by rw [u2_k a, u2_k a]⟩
theorem C_mark {T : Mem} {L cap p x : Nat} {ch : Nat → Nat} (h : TB T M 370 372 0 L cap ch) (h32 : ∀ k, k < L → 32 ≤ ch k) (hp : M 346 2 = nI p) (hpL : p < 65000) (hx : x < 127) (hx0 : 0 < x) : F_X4_readCharacter n T 346 (nI x) M = some (if p < L ∧ ch p = x then (nI 1, up2 M 346 2 (nI (p + 1))) else (nI 0, M)) := by
  have hc := C_char (n := n) h hp (by omega)
  unfold F_X4_readCharacter
  rw [hc, ob_s]
  by_cases e : p < L ∧ ch p = x
  · rw [if_pos e.1, if_pos (by rw [e.2]), if_pos e, lt_s', hp, litN, n_add]
  · have hne : ¬ ((if p < L then nI (ch p) else nI 0) = nI x) := by
      by_cases z : p < L
      · have hb := (g_at_t (n := n) h z).2
        rw [if_pos z, n_eq (by omega) (by omega)]
        exact fun q => e ⟨z, q⟩
      · rw [if_neg z, n_eq (by decide) (by omega)]; omega
    rw [if_neg hne, if_neg e]
    rfl
end NUMZ
