/-! ===== PURE: the queue ===== -/
def hpO (K : Nat → Nat) (s : Nat) : Prop := ∀ i, 0 < i → i < s → K ((i - 1) / 2) ≤ K i
def Cn (K : Nat → Nat) (s : Nat) (S : Nat → Prop) : Prop := (∀ i, i < s → S (K i)) ∧ (∀ x, S x → ∃ i, i < s ∧ K i = x) ∧ ∀ i i', i < i' → i' < s → K i ≠ K i'
def sw (K : Nat → Nat) (h p : Nat) : Nat → Nat := fun i => if i = h then K p else if i = p then K h else K i
theorem sw_h {K : Nat → Nat} {h p : Nat} : sw K h p h = K p := if_pos rfl
theorem sw_p {K : Nat → Nat} {h p : Nat} (e : p ≠ h) : sw K h p p = K h := by unfold sw; rw [if_neg e, if_pos rfl]
theorem sw_o {K : Nat → Nat} {h p i : Nat} (e : i ≠ h) (e2 : i ≠ p) : sw K h p i = K i := by unfold sw; rw [if_neg e, if_neg e2]
theorem Cn.sw {K : Nat → Nat} {s h p : Nat} {S : Nat → Prop} (C : Cn K s S) (hh : h < s) (hp : p < s) (hne : p ≠ h) : Cn (sw K h p) s S := by
  obtain ⟨c1, c2, c3⟩ := C
  have inj : ∀ i i', i < s → i' < s → i ≠ i' → K i ≠ K i' := fun i i' h1 h2 h3 => by
    rcases Nat.lt_or_ge i i' with q | q
    · exact c3 i i' q h2
    · exact (c3 i' i (by omega) h1).symm
  refine ⟨fun i hi => ?_, fun x hx => ?_, fun i i' h1 h2 => ?_⟩
  · by_cases e : i = h
    · rw [e, sw_h]; exact c1 p hp
    · by_cases e2 : i = p
      · rw [e2, sw_p hne]; exact c1 h hh
      · rw [sw_o e e2]; exact c1 i hi
  · obtain ⟨i, hi, e⟩ := c2 x hx
    by_cases e1 : i = h
    · exact ⟨p, hp, by rw [sw_p hne, ← e1]; exact e⟩
    · by_cases e2 : i = p
      · exact ⟨h, hh, by rw [sw_h, ← e2]; exact e⟩
      · exact ⟨i, hi, by rw [sw_o e1 e2]; exact e⟩
  · have hi : i < s := by omega
    by_cases a1 : i = h <;> by_cases a2 : i = p <;> by_cases b1 : i' = h <;> by_cases b2 : i' = p
    all_goals first
      | (exfalso; omega)
      | (subst a1; subst b2; rw [sw_h, sw_p hne]; exact inj _ _ hp hh (by omega))
      | (subst a2; subst b1; rw [sw_h, sw_p hne]; exact inj _ _ hh hp (by omega))
      | (subst a1; rw [sw_h, sw_o b1 b2]; exact inj _ _ hp h2 (by omega))
      | (subst a2; rw [sw_p hne, sw_o b1 b2]; exact inj _ _ hh h2 (by omega))
      | (subst b1; rw [sw_h, sw_o a1 a2]; exact inj _ _ hi hp (by omega))
      | (subst b2; rw [sw_p hne, sw_o a1 a2]; exact inj _ _ hi hh (by omega))
      | (rw [sw_o a1 a2, sw_o b1 b2]; exact inj _ _ hi h2 (by omega))
theorem hdiv : ∀ a, a < 16 → nI a / nI 2 = nI (a / 2) := by decide +kernel
theorem hpO_min {K : Nat → Nat} {s : Nat} (h : hpO K s) : ∀ i, i < s → K 0 ≤ K i := by
  intro i
  induction i using Nat.strongRecOn with
  | ind i ih =>
    intro hi
    by_cases e : i = 0
    · rw [e]; exact Nat.le_refl _
    · have h1 := h i (by omega) hi
      have h2 := ih ((i - 1) / 2) (by omega) (by omega)
      omega
section HEAP
variable {n c : Nat} {T M Mm : Mem} {V : Nat → Nat}
theorem put_loop {s key : Nat} {S : Nat → Prop} (hs : s < 12) (hkey : key < 2147483648) : ∀ (k h : Nat) (M : Mem) (Kv : Nat → Nat), h < k → h ≤ s → (∀ i, i ≤ s → i ≠ h → M 345 i = nI (Kv i)) → (∀ i, i ≤ s → Kv i < 2147483648) → Kv h = key →
    (∀ i, 0 < i → i ≤ s → i ≠ h → Kv ((i - 1) / 2) ≤ Kv i) → (∀ i, 0 < i → i ≤ s → (i - 1) / 2 = h → 0 < h → Kv ((h - 1) / 2) ≤ Kv i) → Cn Kv (s + 1) S →
    ∃ M' K', F_X8_put_L37 n 344 k (nI key) (nI h) M = some M' ∧ (∀ j, j ≠ 345 → M' j = M j) ∧ (∀ i, i < s + 1 → M' 345 i = nI (K' i)) ∧ (∀ i, i < s + 1 → K' i < 2147483648) ∧ hpO K' (s + 1) ∧ Cn K' (s + 1) S := by
  intro k
  induction k with
  | zero => intro h M Kv hk; exact absurd hk (Nat.not_lt_zero _)
  | succ k ih =>
    intro h M Kv hk hhs hrow hbd hKh hord hch hC
    have hB : ∀ k : Nat, 0 ≤ k := fun _ => Nat.zero_le _
    have fin : ∀ (hfin : 0 < h → Kv ((h - 1) / 2) ≤ key), ∃ M' K', some (up2 M 345 h (nI key)) = some M' ∧ (∀ j, j ≠ 345 → M' j = M j) ∧ (∀ i, i < s + 1 → M' 345 i = nI (K' i)) ∧ (∀ i, i < s + 1 → K' i < 2147483648) ∧ hpO K' (s + 1) ∧ Cn K' (s + 1) S := fun hfin => by
      refine ⟨_, Kv, rfl, fun j hj => u2_k hj, fun i hi => ?_, fun i hi => hbd i (by omega), fun i h0 hi => ?_, hC⟩
      · by_cases e : i = h
        · rw [e, u2_s, hKh]
        · rw [u2_j e]; exact hrow i (by omega) e
      · by_cases e : i = h
        · rw [e, hKh]; exact hfin (by omega)
        · exact hord i h0 (by omega) e
    by_cases h0 : h = 0
    · subst h0
      simp only [F_X8_put_L37]
      simp (disch := first | omega | exact hB _) only [Nat.le_refl, ob_s, ob2_s, chk_t, lt_s', litI, n_add, n_mul, n_sub, inb_n, ix_n, n_le, n_lt, n_eq, n_bit, n_m1_lt, n_m1_eq, n_m1_m, n_ne_m, n_m_ne, n_m_lt0, n_0_le_m, if_true, if_false, eq_self, not_true_eq_false, not_false_eq_true, isB_0, isB_1, Bool.false_eq_true, true_and, and_true, false_and, and_false, and_self, Nat.one_ne_zero, Nat.zero_ne_one, reduceIte]
      exact fin (fun h => absurd h (Nat.lt_irrefl _))
    · have hle : ¬ h ≤ 0 := by omega
      have hdv := hdiv (h - 1) (by omega)
      have hpr := hrow ((h - 1) / 2) (by omega) (by omega)
      have hpb := hbd ((h - 1) / 2) (by omega)
      by_cases e : Kv ((h - 1) / 2) ≤ key
      · simp only [F_X8_put_L37]
        simp (disch := first | omega | exact hB _) only [hle, hdv, hpr, e, ob_s, ob2_s, chk_t, lt_s', litI, n_add, n_mul, n_sub, inb_n, ix_n, n_le, n_lt, n_eq, n_bit, n_m1_lt, n_m1_eq, n_m1_m, n_ne_m, n_m_ne, n_m_lt0, n_0_le_m, if_true, if_false, eq_self, not_true_eq_false, not_false_eq_true, isB_0, isB_1, Bool.false_eq_true, true_and, and_true, false_and, and_false, and_self, Nat.one_ne_zero, Nat.zero_ne_one, reduceIte]
        exact fin (fun _ => e)
      · obtain ⟨M', K', g1, g2, g3, g4, g5, g6⟩ := ih ((h - 1) / 2) (up2 M 345 h (nI (Kv ((h - 1) / 2)))) (sw Kv h ((h - 1) / 2)) (by omega) (by omega) (fun i hi hne => by
          by_cases e1 : i = h
          · rw [e1, u2_s, sw_h]
          · rw [u2_j e1, sw_o e1 hne]; exact hrow i hi e1) (fun i hi => by
          by_cases e1 : i = h
          · rw [e1, sw_h]; exact hpb
          · by_cases e2 : i = (h - 1) / 2
            · rw [e2, sw_p (by omega), hKh]; exact hkey
            · rw [sw_o e1 e2]; exact hbd i hi) (by rw [sw_p (by omega)]; exact hKh) (fun i h1 h2 h3 => by
          by_cases e1 : i = h
          · rw [e1, sw_h, sw_p (by omega), hKh]; omega
          · rw [sw_o (i := i) e1 h3]
            by_cases e2 : (i - 1) / 2 = h
            · rw [e2, sw_h]; exact hch i h1 h2 e2 (by omega)
            · by_cases e4 : (i - 1) / 2 = (h - 1) / 2
              · rw [e4, sw_p (by omega), hKh]
                have := hord i h1 h2 e1
                rw [e4] at this
                omega
              · rw [sw_o e2 e4]; exact hord i h1 h2 e1) (fun i h1 h2 h3 h4 => by
          have hpp := hord ((h - 1) / 2) h4 (by omega) (by omega)
          rw [sw_o (i := ((h - 1) / 2 - 1) / 2) (by omega) (by omega)]
          by_cases e1 : i = h
          · rw [e1, sw_h]; exact hpp
          · rw [sw_o e1 (by omega)]
            have := hord i h1 h2 e1
            rw [h3] at this
            omega) (hC.sw (by omega) (by omega) (by omega))
        refine ⟨M', K', ?_, fun j hj => by rw [g2 j hj, u2_k hj], g3, g4, g5, g6⟩
        simp only [F_X8_put_L37]
        simp (disch := first | omega | exact hB _) only [hle, hdv, hpr, e, ob_s, ob2_s, chk_t, lt_s', litI, n_add, n_mul, n_sub, inb_n, ix_n, n_le, n_lt, n_eq, n_bit, n_m1_lt, n_m1_eq, n_m1_m, n_ne_m, n_m_ne, n_m_lt0, n_0_le_m, if_true, if_false, eq_self, not_true_eq_false, not_false_eq_true, isB_0, isB_1, Bool.false_eq_true, true_and, and_true, false_and, and_false, and_self, Nat.one_ne_zero, Nat.zero_ne_one, reduceIte]
        exact g1
/-- the queue holds the keys S -/
def Qu (M : Mem) (s : Nat) (S : Nat → Prop) : Prop := ∃ K, s ≤ 12 ∧ M 344 1 = nI s ∧ (∀ i, i < s → M 345 i = nI (K i)) ∧ (∀ i, i < s → K i < 2147483648) ∧ hpO K s ∧ Cn K s S
theorem C_put {s sp k f : Nat} {S S' : Nat → Prop} (hn : 13 ≤ n) (hQ : Qu M s S) (hs : s < 12) (hsp : sp < 65536) (hk : k < 16) (hf : f < 16) (hS : ¬ S (16 * (16 * sp + k) + f)) (hS' : ∀ x, S' x ↔ S x ∨ x = 16 * (16 * sp + k) + f) : ∃ M', F_X8_put n 344 (nI sp) (nI k) (nI f) M = some M' ∧ Qu M' (s + 1) S' ∧ ∀ j, j ≠ 344 → j ≠ 345 → M' j = M j := by
  obtain ⟨K, _, h1, h2, h3, h4, c1, c2, c3⟩ := hQ
  have hB : ∀ k : Nat, 0 ≤ k := fun _ => Nat.zero_le _
  have e1 : ∀ x, x < 67108864 → nI x <<< (nI 4 &&& nI 31) = nI (x * 2 ^ 4) := fun x hx => by
    rw [n_and31 (by decide)]
    exact pk_shlN (n := x) _ 4 (sm32 4 (by decide)) (by omega)
  have e2 : ∀ x y, y < 16 → x * 2 ^ 4 ||| y = 16 * x + y := fun x y hy => by
    rw [Nat.mul_comm, ← Nat.two_pow_add_eq_or_of_lt (show y < 2 ^ 4 by omega)]
  obtain ⟨M', K', g1, g2, g3, g4, g5, g6⟩ := put_loop (n := n) (s := s) (key := 16 * (16 * sp + k) + f) (S := S') hs (by omega) n s (up2 M 344 1 (nI (s + 1))) (fun i => if i = s then 16 * (16 * sp + k) + f else K i) (by omega) (Nat.le_refl _) (fun i hi hne => by
      simp only [hne, if_false]
      rw [u2_k (by decide)]; exact h2 i (by omega)) (fun i hi => by
      show (if i = s then 16 * (16 * sp + k) + f else K i) < _
      split
      · omega
      · exact h3 i (by omega)) (if_pos rfl) (fun i q1 q2 q3 => by
      simp only [q3, if_false, show (i - 1) / 2 ≠ s by omega]
      exact h4 i q1 (by omega)) (fun i q1 q2 q3 q4 => by omega) ⟨fun i hi => by
      show S' (if i = s then 16 * (16 * sp + k) + f else K i)
      split
      · exact (hS' _).2 (.inr rfl)
      · exact (hS' _).2 (.inl (c1 i (by omega))), fun x hx => by
      rcases (hS' x).1 hx with q | q
      · obtain ⟨i, hi, e⟩ := c2 x q
        exact ⟨i, by omega, by simp only [show i ≠ s by omega, if_false]; exact e⟩
      · exact ⟨s, by omega, by simp only [if_true]; exact q.symm⟩, fun i i' q1 q2 => by
      simp only [show i ≠ s by omega, if_false]
      by_cases e : i' = s
      · simp only [e, if_true]
        intro z
        exact hS (z ▸ c1 i (by omega))
      · simp only [e, if_false]
        exact c3 i i' q1 (by omega)⟩
  refine ⟨M', ?_, ⟨K', by omega, by rw [g2 344 (by decide), u2_s], g3, g4, g5, g6⟩, fun j a1 a2 => by rw [g2 j a2, u2_k a1]⟩
  unfold F_X8_put
  rw [if_pos (by rw [h1, litN, n_lt (by omega) (by decide)]; exact hs), litN, litN, e1 _ (by omega), n_or (by omega) (by omega), e2 _ _ hk, e1 _ (by omega), n_or (by omega) (by omega), e2 _ _ hf, lt_s', lt_s', lt_s', h1, litN, n_add]
  exact g1
end HEAP
