/-! ===== PURE: taking the first out of the queue ===== -/
def lc (K : Nat → Nat) (s h : Nat) : Nat := if s ≤ 2 * h + 2 then 2 * h + 1 else if K (2 * h + 1) ≤ K (2 * h + 2) then 2 * h + 1 else 2 * h + 2
theorem lc_cases (K : Nat → Nat) (s h : Nat) : (lc K s h = 2 * h + 1 ∧ (s ≤ 2 * h + 2 ∨ K (2 * h + 1) ≤ K (2 * h + 2))) ∨ (lc K s h = 2 * h + 2 ∧ 2 * h + 2 < s ∧ K (2 * h + 2) ≤ K (2 * h + 1)) := by
  unfold lc
  by_cases e : s ≤ 2 * h + 2
  · rw [if_pos e]; exact .inl ⟨rfl, .inl e⟩
  · rw [if_neg e]
    by_cases e2 : K (2 * h + 1) ≤ K (2 * h + 2)
    · rw [if_pos e2]; exact .inl ⟨rfl, .inr e2⟩
    · rw [if_neg e2]; exact .inr ⟨rfl, by omega, by omega⟩
section TAKE
variable {n c : Nat} {T M Mm : Mem} {V : Nat → Nat}
theorem C_lesser {s h : Nat} {K : Nat → Nat} (hs : s ≤ 12) (hh : h < 12) (h1 : M 344 1 = nI s) (hrow : ∀ i, i < s → i = 2 * h + 1 ∨ i = 2 * h + 2 → M 345 i = nI (K i)) (hb : ∀ i, i < s → K i < 2147483648) : F_X8_lesserChild n 344 (nI h) M = some (nI (lc K s h)) := by
  have hB : ∀ k : Nat, 0 ≤ k := fun _ => Nat.zero_le _
  unfold F_X8_lesserChild lc
  by_cases e : s ≤ 2 * h + 2
  · have e' : s ≤ 2 * h + 1 + 1 := e
    simp (disch := first | omega | exact hB _) only [h1, e, e', ob_s, ob2_s, chk_t, lt_s', litI, n_add, n_mul, n_sub, inb_n, ix_n, n_le, n_lt, n_eq, n_bit, n_m1_lt, n_m1_eq, n_m1_m, n_ne_m, n_m_ne, n_m_lt0, n_0_le_m, if_true, if_false, eq_self, not_true_eq_false, not_false_eq_true, isB_0, isB_1, Bool.false_eq_true, true_and, and_true, false_and, and_false, and_self, Nat.one_ne_zero, Nat.zero_ne_one, reduceIte]
  · have e' : ¬ s ≤ 2 * h + 1 + 1 := e
    have r1 := hrow (2 * h + 1) (by omega) (.inl rfl)
    have r2 : M 345 (2 * h + 1 + 1) = nI (K (2 * h + 2)) := hrow (2 * h + 2) (by omega) (.inr rfl)
    have b1 := hb (2 * h + 1) (by omega)
    have b2 := hb (2 * h + 2) (by omega)
    simp (disch := first | omega | exact hB _) only [h1, e, e', r1, r2, ob_s, ob2_s, chk_t, lt_s', litI, n_add, n_mul, n_sub, inb_n, ix_n, n_le, n_lt, n_eq, n_bit, n_m1_lt, n_m1_eq, n_m1_m, n_ne_m, n_m_ne, n_m_lt0, n_0_le_m, if_true, if_false, eq_self, not_true_eq_false, not_false_eq_true, isB_0, isB_1, Bool.false_eq_true, true_and, and_true, false_and, and_false, and_self, Nat.one_ne_zero, Nat.zero_ne_one, reduceIte]
    by_cases e2 : K (2 * h + 1) ≤ K (2 * h + 2)
    · simp (disch := first | omega | exact hB _) only [e2, ob_s, ob2_s, chk_t, lt_s', litI, n_add, n_mul, n_sub, inb_n, ix_n, n_le, n_lt, n_eq, n_bit, n_m1_lt, n_m1_eq, n_m1_m, n_ne_m, n_m_ne, n_m_lt0, n_0_le_m, if_true, if_false, eq_self, not_true_eq_false, not_false_eq_true, isB_0, isB_1, Bool.false_eq_true, true_and, and_true, false_and, and_false, and_self, Nat.one_ne_zero, Nat.zero_ne_one, reduceIte]
    · simp (disch := first | omega | exact hB _) only [e2, ob_s, ob2_s, chk_t, lt_s', litI, n_add, n_mul, n_sub, inb_n, ix_n, n_le, n_lt, n_eq, n_bit, n_m1_lt, n_m1_eq, n_m1_m, n_ne_m, n_m_ne, n_m_lt0, n_0_le_m, if_true, if_false, eq_self, not_true_eq_false, not_false_eq_true, isB_0, isB_1, Bool.false_eq_true, true_and, and_true, false_and, and_false, and_self, Nat.one_ne_zero, Nat.zero_ne_one, reduceIte]
theorem take_loop {s last : Nat} {x1 : Int32} {S : Nat → Prop} (hs : s < 12) (hlast : last < 2147483648) : ∀ (k h : Nat) (M : Mem) (Kv : Nat → Nat), s - h < k → (h < s ∨ h = 0) → M 344 1 = nI s → (∀ i, i < s → i ≠ h → M 345 i = nI (Kv i)) → (∀ i, i < s → Kv i < 2147483648) → (h < s → Kv h = last) →
    (∀ i, 0 < i → i < s → (i - 1) / 2 ≠ h → Kv ((i - 1) / 2) ≤ Kv i) → (∀ i, 0 < i → i < s → (i - 1) / 2 = h → 0 < h → Kv ((h - 1) / 2) ≤ Kv i) → Cn Kv s S →
    ∃ M' K', F_X8_takeFirst_L45 n 344 k x1 (nI last) (nI h) (nI (lc Kv s h)) M = some (x1 &&& 15, M') ∧ (∀ j, j ≠ 345 → M' j = M j) ∧ (∀ i, i < s → M' 345 i = nI (K' i)) ∧ (∀ i, i < s → K' i < 2147483648) ∧ hpO K' s ∧ Cn K' s S := by
  intro k
  induction k with
  | zero => intro h M Kv hk; exact absurd hk (Nat.not_lt_zero _)
  | succ k ih =>
    intro h M Kv hk hhs h1 hrow hbd hKh hord hch hC
    have hB : ∀ k : Nat, 0 ≤ k := fun _ => Nat.zero_le _
    have hl := lc_cases Kv s h
    have hh12 : h < 12 := by omega
    have hl25 : lc Kv s h < 2147483648 := by omega
    have fin : ∀ (hfin : ∀ i, 0 < i → i < s → (i - 1) / 2 = h → last ≤ Kv i), ∃ M' K', some (x1 &&& 15, up2 M 345 h (nI last)) = some (x1 &&& 15, M') ∧ (∀ j, j ≠ 345 → M' j = M j) ∧ (∀ i, i < s → M' 345 i = nI (K' i)) ∧ (∀ i, i < s → K' i < 2147483648) ∧ hpO K' s ∧ Cn K' s S := fun hfin => by
      refine ⟨_, Kv, rfl, fun j hj => u2_k hj, fun i hi => ?_, hbd, fun i h0 hi => ?_, hC⟩
      · by_cases e : i = h
        · subst e; rw [u2_s, hKh hi]
        · rw [u2_j e]; exact hrow i hi e
      · by_cases e : (i - 1) / 2 = h
        · rw [e, hKh (by omega)]; exact hfin i h0 hi e
        · exact hord i h0 hi e
    by_cases e1 : s ≤ lc Kv s h
    · simp only [F_X8_takeFirst_L45]
      simp (disch := first | omega | exact hB _) only [h1, e1, ob_s, ob2_s, chk_t, lt_s', litI, n_add, n_mul, n_sub, inb_n, ix_n, n_le, n_lt, n_eq, n_bit, n_m1_lt, n_m1_eq, n_m1_m, n_ne_m, n_m_ne, n_m_lt0, n_0_le_m, if_true, if_false, eq_self, not_true_eq_false, not_false_eq_true, isB_0, isB_1, Bool.false_eq_true, true_and, and_true, false_and, and_false, and_self, Nat.one_ne_zero, Nat.zero_ne_one, reduceIte]
      exact fin (fun i q1 q2 q3 => by omega)
    · have hcr := hrow (lc Kv s h) (by omega) (by omega)
      have hcb := hbd (lc Kv s h) (by omega)
      have hc12 : lc Kv s h < 12 := by omega
      have hpar : (lc Kv s h - 1) / 2 = h := by omega
      have hmin : ∀ i, 0 < i → i < s → (i - 1) / 2 = h → Kv (lc Kv s h) ≤ Kv i := fun i q1 q2 q3 => by
        rcases (by omega : i = 2 * h + 1 ∨ i = 2 * h + 2) with q | q <;> subst q <;> rcases hl with ⟨z, z2⟩ | ⟨z, z2, z3⟩ <;> rw [z]
        · exact Nat.le_refl _
        · exact z3
        · omega
        · exact Nat.le_refl _
      by_cases e2 : last ≤ Kv (lc Kv s h)
      · simp only [F_X8_takeFirst_L45]
        simp (disch := first | omega | exact hB _) only [h1, e1, hcr, e2, ob_s, ob2_s, chk_t, lt_s', litI, n_add, n_mul, n_sub, inb_n, ix_n, n_le, n_lt, n_eq, n_bit, n_m1_lt, n_m1_eq, n_m1_m, n_ne_m, n_m_ne, n_m_lt0, n_0_le_m, if_true, if_false, eq_self, not_true_eq_false, not_false_eq_true, isB_0, isB_1, Bool.false_eq_true, true_and, and_true, false_and, and_false, and_self, Nat.one_ne_zero, Nat.zero_ne_one, reduceIte]
        exact fin (fun i q1 q2 q3 => Nat.le_trans e2 (hmin i q1 q2 q3))
      · generalize hcc : lc Kv s h = ch at *
        have hne : ch ≠ h := by omega
        have hKl := hKh (by omega)
        have hrow2 : ∀ i, i < s → i ≠ ch → (up2 M 345 h (nI (Kv ch))) 345 i = nI (sw Kv h ch i) := fun i hi hne2 => by
          by_cases e3 : i = h
          · subst e3; rw [u2_s, sw_h]
          · rw [u2_j e3, sw_o e3 hne2]; exact hrow i hi e3
        have hbd2 : ∀ i, i < s → sw Kv h ch i < 2147483648 := fun i hi => by
          by_cases e3 : i = h
          · subst e3; rw [sw_h]; exact hcb
          · by_cases e4 : i = ch
            · subst e4; rw [sw_p hne, hKl]; exact hlast
            · rw [sw_o e3 e4]; exact hbd i hi
        obtain ⟨M', K', g1, g2, g3, g4, g5, g6⟩ := ih ch (up2 M 345 h (nI (Kv ch))) (sw Kv h ch) (by omega) (.inl (by omega)) (by rw [u2_k (by decide)]; exact h1) hrow2 hbd2 (fun _ => by rw [sw_p hne]; exact hKl) (fun i q1 q2 q3 => by
          by_cases e3 : i = h
          · subst e3
            rw [sw_h, sw_o (by omega) q3]
            exact hch ch (by omega) (by omega) hpar q1
          · by_cases e4 : (i - 1) / 2 = h
            · rw [e4, sw_h]
              by_cases e5 : i = ch
              · subst e5; rw [sw_p hne, hKl]; omega
              · rw [sw_o e3 e5]; exact hmin i q1 q2 e4
            · have e5 : i ≠ ch := fun z => by subst z; exact e4 hpar
              rw [sw_o e4 q3, sw_o e3 e5]
              exact hord i q1 q2 e4) (fun i q1 q2 q3 q4 => by
          rw [hpar, sw_h, sw_o (by omega) (by omega)]
          have := hord i q1 q2 (by omega)
          rw [q3] at this
          exact this) (hC.sw (by omega) (by omega) hne)
        have hls : F_X8_lesserChild n 344 (nI ch) (up2 M 345 h (nI (Kv ch))) = some (nI (lc (sw Kv h ch) s ch)) := C_lesser (by omega) hc12 (by rw [u2_k (by decide)]; exact h1) (fun i hi q => hrow2 i hi (by omega)) hbd2
        refine ⟨M', K', ?_, fun j hj => by rw [g2 j hj, u2_k hj], g3, g4, g5, g6⟩
        simp only [F_X8_takeFirst_L45]
        simp (disch := first | omega | exact hB _) only [h1, e1, hcr, e2, hls, ob_s, ob2_s, chk_t, lt_s', litI, n_add, n_mul, n_sub, inb_n, ix_n, n_le, n_lt, n_eq, n_bit, n_m1_lt, n_m1_eq, n_m1_m, n_ne_m, n_m_ne, n_m_lt0, n_0_le_m, if_true, if_false, eq_self, not_true_eq_false, not_false_eq_true, isB_0, isB_1, Bool.false_eq_true, true_and, and_true, false_and, and_false, and_self, Nat.one_ne_zero, Nat.zero_ne_one, reduceIte]
        exact g1
theorem C_take {s : Nat} {S : Nat → Prop} (hn : 14 ≤ n) (hQ : Qu M (s + 1) S) : ∃ m M', F_X8_takeFirst n 344 M = some (nI (m % 16), M') ∧ S m ∧ (∀ x, S x → m ≤ x) ∧ Qu M' s (fun x => S x ∧ x ≠ m) ∧ ∀ j, j ≠ 344 → j ≠ 345 → M' j = M j := by
  obtain ⟨K, hs, h1, h2, h3, h4, c1, c2, c3⟩ := hQ
  have hB : ∀ k : Nat, 0 ≤ k := fun _ => Nat.zero_le _
  have hmin := hpO_min h4
  have r0 := h2 0 (by omega)
  have rs := h2 s (by omega)
  have bs := h3 s (by omega)
  have b0 := h3 0 (by omega)
  have hz : ∀ i, i < s → i ≠ 0 → (fun i => if i = 0 then K s else K i) i = K i := fun i _ hi => if_neg hi
  have hQ' : Cn (fun i => if i = 0 then K s else K i) s (fun x => S x ∧ x ≠ K 0) := by
    refine ⟨fun i hi => ?_, fun x hx => ?_, fun i i' q1 q2 => ?_⟩
    · by_cases e : i = 0
      · subst e
        simp only [if_true]
        exact ⟨c1 s (by omega), (c3 0 s (by omega) (by omega)).symm⟩
      · simp only [e, if_false]
        exact ⟨c1 i (by omega), (c3 0 i (by omega) (by omega)).symm⟩
    · obtain ⟨i, hi, e⟩ := c2 x hx.1
      have hi0 : i ≠ 0 := fun z => hx.2 (by rw [← e, z])
      by_cases e2 : i = s
      · exact ⟨0, by omega, by simp only [if_true]; rw [← e2]; exact e⟩
      · exact ⟨i, by omega, by simp only [hi0, if_false]; exact e⟩
    · simp only [show i' ≠ 0 by omega, if_false]
      by_cases e : i = 0
      · simp only [e, if_true]; exact (c3 i' s q2 (by omega)).symm
      · simp only [e, if_false]; exact c3 i i' q1 (by omega)
  obtain ⟨M', K', g1, g2, g3, g4, g5, g6⟩ := take_loop (n := n) (s := s) (last := K s) (x1 := nI (K 0)) (S := fun x => S x ∧ x ≠ K 0) (by omega) bs n 0 (up2 M 344 1 (nI s)) (fun i => if i = 0 then K s else K i) (by omega) (.inr rfl) u2_s (fun i hi hne => by
    rw [u2_k (by decide)]
    simp only [hne, if_false]
    exact h2 i (by omega)) (fun i hi => by
    show (if i = 0 then K s else K i) < _
    split
    · exact bs
    · exact h3 i (by omega)) (fun _ => rfl) (fun i q1 q2 q3 => by
    simp only [q3, show i ≠ 0 by omega, if_false]
    exact h4 i q1 (by omega)) (fun i q1 q2 q3 q4 => absurd q4 (Nat.lt_irrefl _)) hQ'
  have hls : F_X8_lesserChild n 344 (nI 0) (up2 M 344 1 (nI s)) = some (nI (lc (fun i => if i = 0 then K s else K i) s 0)) := C_lesser (by omega) (by decide) u2_s (fun i hi q => by
    rw [u2_k (by decide)]
    simp only [show i ≠ 0 by omega, if_false]
    exact h2 i (by omega)) (fun i hi => by
    show (if i = 0 then K s else K i) < _
    split
    · exact bs
    · exact h3 i (by omega))
  have ea : nI (K 0) &&& 15 = nI (K 0 % 16) := pk_andN (by omega) (m := nI 15) 4 rfl
  refine ⟨K 0, M', ?_, c1 0 (by omega), fun x hx => ?_, ⟨K', by omega, by rw [g2 344 (by decide), u2_s], g3, g4, g5, g6⟩, fun j a1 a2 => by rw [g2 j a2, u2_k a1]⟩
  · rw [ea] at g1
    unfold F_X8_takeFirst
    simp (disch := first | omega | exact hB _) only [r0, h1, u2_s, u2_k, rs, hls, Nat.add_sub_cancel, Nat.zero_lt_succ, ob_s, ob2_s, chk_t, lt_s', litI, n_add, n_mul, n_sub, inb_n, ix_n, n_le, n_lt, n_eq, n_bit, n_m1_lt, n_m1_eq, n_m1_m, n_ne_m, n_m_ne, n_m_lt0, n_0_le_m, if_true, if_false, eq_self, not_true_eq_false, not_false_eq_true, isB_0, isB_1, Bool.false_eq_true, true_and, and_true, false_and, and_false, and_self, Nat.one_ne_zero, Nat.zero_ne_one, reduceIte]
    exact g1
  · obtain ⟨i, hi, e⟩ := c2 x hx
    rw [← e]
    exact hmin i hi
/-- the key of a place in the queue: its order above its frog -/
def kq (V : Nat → Nat) (i k : Nat) : Nat := 16 * ky V i k + V (119 + 12 * i + k)
theorem kq_mod (W : WF c V) {i k : Nat} (hi : i < 6) (hk : k < V (59 + 10 * i + 5)) : kq V i k % 16 = V (119 + 12 * i + k) := by
  have hF := W.F
  have hx := W.lf hi hk
  unfold kq
  omega
theorem kq_le (W : WF c V) {i k x : Nat} (hi : i < 6) (hk : k < V (59 + 10 * i + 5)) (hx : x < V (59 + 10 * i + 5)) (h : kq V i k ≤ kq V i x) : ky V i k ≤ ky V i x := by
  have hF := W.F
  have h1 := W.lf hi hk
  have h2 := W.lf hi hx
  unfold kq at h
  omega
theorem kq_inj (W : WF c V) {i k x : Nat} (hi : i < 6) (hk : k < V (59 + 10 * i + 5)) (hx : x < V (59 + 10 * i + 5)) (h : kq V i k = kq V i x) : k = x :=
  ky_inj W hi hk hx (Nat.le_antisymm (kq_le W hi hk hx (Nat.le_of_eq h)) (kq_le W hi hx hk (Nat.le_of_eq h.symm)))
theorem C_fill (hA : AR M 1 V) (W : WF c V) (hn : 14 ≤ n) {i : Nat} (hi : i < 6) : ∃ M', F_X9_fillQueue n (nI i) M = some M' ∧ Qu M' (V (59 + 10 * i + 5)) (fun x => ∃ k, k < V (59 + 10 * i + 5) ∧ x = kq V i k) ∧ ∀ j, j ≠ 344 → j ≠ 345 → M' j = M j := by
  have hB := W.b
  have hF := W.F
  have hl := W.li hi
  have hm : MR M (8 + 4 * i) V i := hA.mo i hi
  have sk : ∀ f, f < 12 → M 5 f = nI (V (41 + f)) := hA.sk
  unfold F_X9_fillQueue F_X8_clear
  simp (disch := first | omega | exact hB _) only [ob_s, ob2_s, chk_t, lt_s', litI, n_add, n_mul, n_sub, inb_n, ix_n, n_le, n_lt, n_eq, n_bit, n_m1_lt, n_m1_eq, n_m1_m, n_ne_m, n_m_ne, n_m_lt0, n_0_le_m, if_true, if_false, eq_self, not_true_eq_false, not_false_eq_true, isB_0, isB_1, Bool.false_eq_true, true_and, and_true, false_and, and_false, and_self, Nat.one_ne_zero, Nat.zero_ne_one, reduceIte]
  refine loopI (fun k f x => F_X9_fillQueue_L19 n (nI i) k (nI f) x) (fun f x => Qu x f (fun z => ∃ k, k < f ∧ z = kq V i k) ∧ ∀ j, j ≠ 344 → j ≠ 345 → x j = M j) (fun M' => Qu M' (V (59 + 10 * i + 5)) (fun x => ∃ k, k < V (59 + 10 * i + 5) ∧ x = kq V i k) ∧ ∀ j, j ≠ 344 → j ≠ 345 → M' j = M j) 0 (V (59 + 10 * i + 5)) (fun k x hx => ⟨x, ?_, hx⟩) (fun k f x hs hf hx => ?_) n (by omega) (by omega) (up2 M 344 1 (nI 0)) ⟨⟨fun _ => 0, by decide, u2_s, fun i hi => absurd hi (Nat.not_lt_zero _), fun i hi => absurd hi (Nat.not_lt_zero _), fun i _ hi => absurd hi (Nat.not_lt_zero _), fun i hi => absurd hi (Nat.not_lt_zero _), fun x ⟨k, hk, _⟩ => absurd hk (Nat.not_lt_zero _), fun i i' _ hi => absurd hi (Nat.not_lt_zero _)⟩, fun j a1 a2 => u2_k a1⟩
  · have e8 : x (8 + 4 * i) = M (8 + 4 * i) := hx.2 _ (by omega) (by omega)
    simp only [F_X9_fillQueue_L19]
    simp (disch := first | omega | exact hB _) only [e8, hm.ln, Nat.le_refl, ob_s, ob2_s, chk_t, lt_s', litI, n_add, n_mul, n_sub, inb_n, ix_n, n_le, n_lt, n_eq, n_bit, n_m1_lt, n_m1_eq, n_m1_m, n_ne_m, n_m_ne, n_m_lt0, n_0_le_m, if_true, if_false, eq_self, not_true_eq_false, not_false_eq_true, isB_0, isB_1, Bool.false_eq_true, true_and, and_true, false_and, and_false, and_self, Nat.one_ne_zero, Nat.zero_ne_one, reduceIte]
  · have e8 : x (8 + 4 * i) = M (8 + 4 * i) := hx.2 _ (by omega) (by omega)
    have e9 : x (8 + 4 * i + 1) = M (8 + 4 * i + 1) := hx.2 _ (by omega) (by omega)
    have e5 : x 5 = M 5 := hx.2 _ (by omega) (by omega)
    have hle : ¬ V (59 + 10 * i + 5) ≤ f := by omega
    have hlf := W.lf hi hf
    obtain ⟨x', g1, g2, g3⟩ := C_put (n := n) (sp := V (41 + V (119 + 12 * i + f))) (k := f) (f := V (119 + 12 * i + f)) (S' := fun z => ∃ k, k < f + 1 ∧ z = kq V i k) (by omega) hx.1 (by omega) (W.b6 _) (by omega) (by omega) (fun ⟨k, hk, e⟩ => by
      have := kq_inj W hi hf (by omega : k < _) e
      omega) (fun z => ⟨fun ⟨k, hk, e⟩ => by
      by_cases q : k = f
      · subst q; exact .inr e
      · exact .inl ⟨k, by omega, e⟩, fun q => q.elim (fun ⟨k, hk, e⟩ => ⟨k, by omega, e⟩) (fun e => ⟨f, by omega, e⟩)⟩)
    refine ⟨x', ⟨g2, fun j a1 a2 => by rw [g3 j a1 a2, hx.2 j a1 a2]⟩, ?_⟩
    simp only [F_X9_fillQueue_L19]
    simp (disch := first | omega | exact hB _) only [e8, e9, e5, hm.ln, hm.le, hle, sk, g1, ob_s, ob2_s, chk_t, lt_s', litI, n_add, n_mul, n_sub, inb_n, ix_n, n_le, n_lt, n_eq, n_bit, n_m1_lt, n_m1_eq, n_m1_m, n_ne_m, n_m_ne, n_m_lt0, n_0_le_m, if_true, if_false, eq_self, not_true_eq_false, not_false_eq_true, isB_0, isB_1, Bool.false_eq_true, true_and, and_true, false_and, and_false, and_self, Nat.one_ne_zero, Nat.zero_ne_one, reduceIte]
theorem Rel.qu {j : Nat} {M' : Mem} (h : Rel j T M Mm) (e : ∀ j, j ≠ 344 → j ≠ 345 → M' j = M j) : Rel j T M' Mm := by
  obtain ⟨h0, h1, V, h2, h3, h4, cnt, past, h5⟩ := h
  exact ⟨h0, h1.fr (Nat.le_refl _) (e 0 (by decide) (by decide)) (fun k a1 a2 => e k (by omega) (by omega)) (e 370 (by decide) (by decide)) (e 371 (by decide) (by decide)) (fun _ _ _ => rfl) rfl rfl rfl rfl rfl, V, h2, h3, h4.cong h3 (fun k a1 a2 => e k (by omega) (by omega)), cnt, past, h5.fr (Nat.le_refl _) (fun k a1 a2 => e k (by omega) (by omega)) rfl rfl⟩
theorem C_nextFrog (hA : AR M 1 V) (W : WF c V) (hn : 14 ≤ n) {i : Nat} (hi : i < V 2) (h0 : V (59 + 10 * i + 5) ≠ 0) : ∃ q M', F_X9_nextFrog n (nI i) M = some (.inr (nI (V (119 + 12 * i + q))), M') ∧ q < V (59 + 10 * i + 5) ∧ rkd V i 0 = q ∧ ∀ j, j ≠ 344 → j ≠ 345 → M' j = M j := by
  have hB := W.b
  have hM := W.M
  have hi6 : i < 6 := by omega
  have hl := W.li hi6
  have hm : MR M (8 + 4 * i) V i := hA.mo i hi6
  obtain ⟨M1, f1, f2, f3⟩ := C_fill (n := n) hA W hn hi6
  obtain ⟨s, hs⟩ : ∃ s, V (59 + 10 * i + 5) = s + 1 := ⟨V (59 + 10 * i + 5) - 1, by omega⟩
  rw [hs] at f2
  obtain ⟨m, M2, t1, ⟨q, hq, rfl⟩, t3, t4, t5⟩ := C_take (n := n) hn f2
  rw [← hs] at hq
  rw [kq_mod W hi6 hq] at t1
  refine ⟨q, M2, ?_, hq, rkd_min W hi6 hq (fun x hx => kq_le W hi6 hq hx (t3 _ ⟨x, by omega, rfl⟩)), fun j a1 a2 => by rw [t5 j a1 a2, f3 j a1 a2]⟩
  unfold F_X9_nextFrog
  rw [C_call1 hA W hi, if_neg h0]
  simp (disch := first | omega | exact hB _) only [refuse_0, obxr_r, f1, t1, ob_s, ob2_s, chk_t, lt_s', litI, n_add, n_mul, n_sub, inb_n, ix_n, n_le, n_lt, n_eq, n_bit, n_m1_lt, n_m1_eq, n_m1_m, n_ne_m, n_m_ne, n_m_lt0, n_0_le_m, if_true, if_false, eq_self, not_true_eq_false, not_false_eq_true, isB_0, isB_1, Bool.false_eq_true, true_and, and_true, false_and, and_false, and_self, Nat.one_ne_zero, Nat.zero_ne_one, reduceIte]
theorem sc_nextFrog (hn : 2900 ≤ n) : SC_nextFrog n Rel := by
  intro j T M Mm x1 hj h
  obtain ⟨V, hR, W, hA⟩ := h.core
  have hB := W.b
  have hM := W.M
  rcases (Classical.em (isL x1 (V 2))).symm with h1 | ⟨i, hi, rfl⟩
  · refine ⟨.inl 2, M, nI 0, up2 Mm 0 0 (nI 1), ?_, ?_, fun k hk => .inl (Sum.inl.inj hk).symm, ?_, no_r, h.thr hj⟩
    · unfold F_X9_nextFrog
      rw [C_call0 hA W x1 h1]
      rfl
    · unfold F_X10_nextFrog
      simp (disch := first | omega | exact hB _) only [R_isMotion_f hR hB h1, u2_s, n10, ob_s, ob2_s, chk_t, lt_s', litI, n_add, n_mul, n_sub, inb_n, ix_n, n_le, n_lt, n_eq, n_bit, n_m1_lt, n_m1_eq, n_m1_m, n_ne_m, n_m_ne, n_m_lt0, n_0_le_m, if_true, if_false, eq_self, not_true_eq_false, not_false_eq_true, isB_0, isB_1, Bool.false_eq_true, true_and, and_true, false_and, and_false, and_self, Nat.one_ne_zero, Nat.zero_ne_one, reduceIte]
    · rw [u2_s]; rfl
  by_cases h0 : V (59 + 10 * i + 5) = 0
  · refine ⟨.inl 5, M, nI 0, up2 Mm 0 0 (nI 2), ?_, ?_, fun k hk => .inr (Sum.inl.inj hk).symm, ?_, no_r, h.thr hj⟩
    · unfold F_X9_nextFrog
      rw [C_call1 hA W hi, if_pos h0]
      rfl
    · unfold F_X10_nextFrog
      simp (disch := first | omega | exact hB _) only [R_isMotion_t hR hB hi, n10, R_of, hR, h0, u2_s, ob_s, ob2_s, chk_t, lt_s', litI, n_add, n_mul, n_sub, inb_n, ix_n, n_le, n_lt, n_eq, n_bit, n_m1_lt, n_m1_eq, n_m1_m, n_ne_m, n_m_ne, n_m_lt0, n_0_le_m, if_true, if_false, eq_self, not_true_eq_false, not_false_eq_true, isB_0, isB_1, Bool.false_eq_true, true_and, and_true, false_and, and_false, and_self, Nat.one_ne_zero, Nat.zero_ne_one, reduceIte]
      rfl
    · rw [u2_s]; rfl
  obtain ⟨q, M', q1, q2, q3, q4⟩ := C_nextFrog (n := n) hA W (by omega) hi h0
  refine ⟨.inr (nI (V (119 + 12 * i + q))), M', nI (V (119 + 12 * i + q)), up2 Mm 0 0 (nI 0), q1, R_nextFrog hR W (by omega) hi q2 q3, no_l, ?_, fun w hw => (Sum.inr.inj hw).symm, (h.thr hj).qu q4⟩
  rw [u2_s]; rfl
end TAKE
