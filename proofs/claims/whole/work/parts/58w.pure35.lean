/-! ===== PURE: the sign, both ===== -/
section SGN
variable {n : Nat} {M : Mem}
theorem C_sign {T : Mem} {L cap p o2 q : Nat} {ch : Nat → Nat} (h : TB T M 370 372 0 L cap ch) (h32 : ∀ k, k < L → 32 ≤ ch k) (hp : M 346 2 = nI p) (hpL : p < 65000) (ho : M o2 2 = nI q) (hq : q < 4) (h3 : o2 ≠ 346) (h4 : o2 + 1 ≠ 346) (h5 : o2 < 369) : F_X4_readSign n T 346 o2 M = some (if p < L ∧ ch p = 43 then (nI 1, up2 (enN M o2 q 1) 346 2 (nI (p + 1))) else if p < L ∧ ch p = 45 then (nI 1, up2 (enN M o2 q 0) 346 2 (nI (p + 1))) else (nI 0, enN M o2 q 0)) := by
  have hc := C_char (n := n) h hp (by omega)
  have hpE : ∀ v, (enN M o2 q v) 346 2 = nI p := fun v => by unfold enN; rw [u2_k (Ne.symm h3), u2_k (Ne.symm h4)]; exact hp
  have hTE : ∀ v, TB T (enN M o2 q v) 370 372 0 L cap ch := fun v => h.fr (by unfold enN; rw [u2_k (by omega), u2_k (by omega)])
  have m43 : F_X4_readCharacter n T 346 43 (enN M o2 q 1) = _ := C_mark (n := n) (x := 43) (hTE 1) h32 (hpE 1) hpL (by decide) (by decide)
  have m45 : F_X4_readCharacter n T 346 45 (enN M o2 q 0) = _ := C_mark (n := n) (x := 45) (hTE 0) h32 (hpE 0) hpL (by decide) (by decide)
  have a1 : F_X3_addNumber n o2 1 M = some (enN M o2 q 1) := C_addN (v := 1) ho hq
  have a0 : F_X3_addNumber n o2 0 M = some (enN M o2 q 0) := C_addN (v := 0) ho hq
  unfold F_X4_readSign
  rw [hc, ob_s]
  by_cases e : p < L ∧ ch p = 43
  · rw [if_pos e] at m43
    rw [if_pos e.1, if_pos (by rw [e.2]; rfl), if_neg (by decide), a1, ob_s, if_neg (by decide), m43, ob2_s, isB_1, chk_t, if_pos e]
  · have hne : ¬ ((if p < L then nI (ch p) else nI 0) = 43) := by
      rw [litN]
      by_cases z : p < L
      · have hb := (g_at_t (n := n) h z).2
        rw [if_pos z, n_eq (by omega) (by omega)]
        exact fun q => e ⟨z, q⟩
      · rw [if_neg z, n_eq (by decide) (by omega)]; omega
    rw [if_neg hne, if_pos (by rfl), a0, ob_s, if_pos (by rfl), m45, ob2_s, if_neg e]
    by_cases e2 : p < L ∧ ch p = 45
    · rw [if_pos e2]
      rfl
    · rw [if_neg e2]
      rfl
end SGN
