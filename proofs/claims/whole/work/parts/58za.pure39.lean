/-! ===== PURE: the reference's parts ===== -/
def RF (M M' : Mem) : Prop := (∀ k, k ≠ 0 → k ≠ 7 → M' k = M k) ∧ ∀ j, j ≠ 15 → j ≠ 18 → M' 0 j = M 0 j
section RPA
variable {n : Nat} {M M1 M2 : Mem} {ch : Nat → Nat} {L : Nat}
theorem RF.refl : RF M M := ⟨fun _ _ _ => rfl, fun _ _ _ => rfl⟩
theorem RF.trans (h : RF M M1) (h' : RF M1 M2) : RF M M2 := ⟨fun k a b => (h'.1 k a b).trans (h.1 k a b), fun j a b => (h'.2 j a b).trans (h.2 j a b)⟩
theorem RT.next {p p' : Nat} (h : RT M L p ch) (hf : RF M M1) (h15 : M1 0 15 = nI p') (h18 : M1 0 18 = nI 0) : RT M1 L p' ch :=
  ⟨h.1, by rw [hf.2 16 (by decide) (by decide)]; exact h.2.1, h15, h18, by rw [hf.1 5 (by decide) (by decide)]; exact h.2.2.2.2.1, h.2.2.2.2.2⟩
theorem R_D {p : Nat} (hn : 14 ≤ n) (h : RT M L p ch) (hp : p ≤ L) : ∃ M', F_X10_digits n 1 M = some (nI (pp ch L 68 p).2.2, M') ∧ RF M M' ∧ M' 0 15 = nI (pp ch L 68 p).2.1 ∧ M' 0 18 = nI (if (pp ch L 68 p).1 = 0 then 1 else 0) := by
  obtain ⟨M', a1, a2, a3, a4, a5⟩ := R_digits (m := 1) hn h (by have := h.1; omega) (.inl rfl)
  have e : pp ch L 68 p = (if nc ch L p 1 = 0 then 0 else 1, p + nc ch L p 1, nv ch L p 1) := rfl
  rw [e]
  refine ⟨M', a1, ⟨fun k h0 _ => a5 k h0, a4⟩, a2, ?_⟩
  rw [a3]
  by_cases z : nc ch L p 1 = 0
  · rw [if_pos z, if_pos (show (if nc ch L p 1 = 0 then 0 else 1) = 0 by rw [if_pos z])]
  · rw [if_neg z, if_neg (show ¬ (if nc ch L p 1 = 0 then 0 else 1) = 0 by rw [if_neg z]; decide)]
theorem R_N {p : Nat} (hn : 14 ≤ n) (h : RT M L p ch) (hp : p ≤ L) : ∃ M', F_X10_digits n 2 M = some (nI (pp ch L 78 p).2.2, M') ∧ RF M M' ∧ M' 0 15 = nI (pp ch L 78 p).2.1 ∧ M' 0 18 = nI (if (pp ch L 78 p).1 = 0 then 1 else 0) := by
  obtain ⟨M', a1, a2, a3, a4, a5⟩ := R_digits (m := 2) hn h (by have := h.1; omega) (.inr rfl)
  have e : pp ch L 78 p = (if nc ch L p 2 = 0 then 0 else 1, p + nc ch L p 2, nv ch L p 2) := rfl
  rw [e]
  refine ⟨M', a1, ⟨fun k h0 _ => a5 k h0, a4⟩, a2, ?_⟩
  rw [a3]
  by_cases z : nc ch L p 2 = 0
  · rw [if_pos z, if_pos (show (if nc ch L p 2 = 0 then 0 else 1) = 0 by rw [if_pos z])]
  · rw [if_neg z, if_neg (show ¬ (if nc ch L p 2 = 0 then 0 else 1) = 0 by rw [if_neg z]; decide)]
theorem R_M {p x : Nat} (h : RT M L p ch) (hp : p ≤ L) (hx : x < 127) (hi : isn x = 0) : ∃ M', F_X10_mark n (nI x) M = some M' ∧ RF M M' ∧ M' 0 15 = nI (pp ch L x p).2.1 ∧ M' 0 18 = nI (if (pp ch L x p).1 = 0 then 1 else 0) := by
  obtain ⟨M', a1, a2, a3, a4, a5⟩ := R_mark (n := n) h (by have := h.1; omega) hx
  refine ⟨M', a1, ⟨fun k h0 _ => a5 k h0, a4⟩, ?_, ?_⟩
  · rw [a2, pp_letter hi]
    by_cases e : p < L ∧ ch p = x
    · rw [if_pos e, if_pos e]
    · rw [if_neg e, if_neg e]
  · rw [a3, pp_letter hi]
    by_cases e : p < L ∧ ch p = x
    · rw [if_pos e, if_pos e]; rfl
    · rw [if_neg e, if_neg e]; rfl
theorem R_B1 {p : Nat} (hn : 14 ≤ n) (h : RT M L p ch) (hp : p ≤ L) : ((pp ch L 32 p).1 = 0 → ∃ M', F_X10_behind n 1 M = some (0, M') ∧ RF M M' ∧ M' 0 15 = nI (pp ch L 32 p).2.1 ∧ M' 0 18 = nI 1) ∧ ((pp ch L 32 p).1 ≠ 0 → ∃ M', F_X10_behind n 1 M = some (nI (pp ch L 68 (pp ch L 32 p).2.1).2.2, M') ∧ RF M M' ∧ M' 0 15 = nI (pp ch L 68 (pp ch L 32 p).2.1).2.1 ∧ M' 0 18 = nI (if (pp ch L 68 (pp ch L 32 p).2.1).1 = 0 then 1 else 0)) := by
  obtain ⟨M1, a1, a2, a3, a4⟩ := R_M (n := n) (x := 32) h hp (by decide) rfl
  have a1' : F_X10_mark n 32 M = some M1 := a1
  unfold F_X10_behind
  rw [a1', ob_s]
  constructor
  · intro z
    rw [if_pos z] at a4
    rw [a4, if_neg (by rw [litN, n10]; exact id)]
    exact ⟨M1, rfl, a2, a3, a4⟩
  · intro z
    rw [if_neg z] at a4
    obtain ⟨M2, b1, b2, b3, b4⟩ := R_D hn (h.next a2 a3 a4) (pp_le hp)
    rw [a4, if_pos (by rfl), b1, ob2_s]
    exact ⟨M2, rfl, a2.trans b2, b3, b4⟩
theorem R_B2 {p : Nat} (hn : 14 ≤ n) (h : RT M L p ch) (hp : p ≤ L) : ((pp ch L 32 p).1 = 0 → ∃ M', F_X10_behind n 2 M = some (0, M') ∧ RF M M' ∧ M' 0 15 = nI (pp ch L 32 p).2.1 ∧ M' 0 18 = nI 1) ∧ ((pp ch L 32 p).1 ≠ 0 → ∃ M', F_X10_behind n 2 M = some (nI (pp ch L 78 (pp ch L 32 p).2.1).2.2, M') ∧ RF M M' ∧ M' 0 15 = nI (pp ch L 78 (pp ch L 32 p).2.1).2.1 ∧ M' 0 18 = nI (if (pp ch L 78 (pp ch L 32 p).2.1).1 = 0 then 1 else 0)) := by
  obtain ⟨M1, a1, a2, a3, a4⟩ := R_M (n := n) (x := 32) h hp (by decide) rfl
  have a1' : F_X10_mark n 32 M = some M1 := a1
  unfold F_X10_behind
  rw [a1', ob_s]
  constructor
  · intro z
    rw [if_pos z] at a4
    rw [a4, if_neg (by rw [litN, n10]; exact id)]
    exact ⟨M1, rfl, a2, a3, a4⟩
  · intro z
    rw [if_neg z] at a4
    obtain ⟨M2, b1, b2, b3, b4⟩ := R_N hn (h.next a2 a3 a4) (pp_le hp)
    rw [a4, if_pos (by rfl), b1, ob2_s]
    exact ⟨M2, rfl, a2.trans b2, b3, b4⟩
theorem R_P {p : Nat} (h : RT M L p ch) (hp : p ≤ L) : ∃ M', F_X10_plus n M = some (nI (pp ch L 83 p).2.2, M') ∧ RF M M' ∧ M' 0 15 = nI (pp ch L 83 p).2.1 ∧ M' 0 18 = nI (if (pp ch L 83 p).1 = 0 then 1 else 0) := by
  obtain ⟨hL, h16, h15, h18, hr, hc⟩ := h
  have hs := R_sign (n := n) hL (by omega) h16 h15 hr
  have e : pp ch L 83 p = if p < L ∧ ch p = 43 then (1, p + 1, 1) else if p < L ∧ ch p = 45 then (1, p + 1, 0) else (0, p, 0) := rfl
  have hne : ∀ x, x < 127 → ¬ (p < L ∧ ch p = x) → ¬ ((if p < L then nI (ch p) else -nI 1) = nI x) := by
    intro x hx q
    by_cases z : p < L
    · rw [if_pos z, n_eq (by have := hc p z; omega) (by omega)]
      exact fun y => q ⟨z, y⟩
    · rw [if_neg z, n_m_ne (by omega)]; exact id
  unfold F_X10_plus
  rw [if_pos (by rw [h18]; rfl), hs, ob_s, e]
  by_cases y1 : p < L ∧ ch p = 43
  · rw [if_pos y1.1, if_pos (by rw [y1.2]; rfl), lt_s', if_pos (by rw [u2_s]), lt_s', if_pos (by rw [y1.2]; rfl), if_pos y1]
    exact ⟨_, rfl, ⟨fun k a b => by rw [u2_k a, u2_k a], fun j a b => by rw [u2_j a, u2_j b]⟩, by rw [u2_s, u2_j (by decide), h15, litN, n_add], by rw [u2_j (by decide), u2_s]; rfl⟩
  · have n43 : ¬ ((if p < L then nI (ch p) else -nI 1) = 43) := hne 43 (by decide) y1
    rw [if_neg n43, if_neg y1]
    by_cases y2 : p < L ∧ ch p = 45
    · rw [if_pos (show (if p < L then nI (ch p) else -nI 1) = 45 by rw [if_pos y2.1, y2.2]; rfl), lt_s', if_pos (by rw [u2_s]), lt_s', if_neg n43, if_pos y2]
      exact ⟨_, rfl, ⟨fun k a b => by rw [u2_k a, u2_k a], fun j a b => by rw [u2_j a, u2_j b]⟩, by rw [u2_s, u2_j (by decide), h15, litN, n_add], by rw [u2_j (by decide), u2_s]; rfl⟩
    · have n45 : ¬ ((if p < L then nI (ch p) else -nI 1) = 45) := hne 45 (by decide) y2
      rw [if_neg n45, lt_s', if_neg (by rw [u2_s]; decide), lt_s', if_neg n43, if_neg y2]
      exact ⟨_, rfl, ⟨fun k a b => by rw [u2_k a, u2_k a], fun j a b => by rw [u2_j a, u2_j b]⟩, by rw [u2_s, u2_j (by decide), h15, litN, n_add]; rfl, by rw [u2_j (by decide), u2_s]; rfl⟩
end RPA
