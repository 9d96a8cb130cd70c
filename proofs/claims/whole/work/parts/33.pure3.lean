/-! ===== PURE: the steps ===== -/
theorem RR.up {Mm : Mem} {V : Nat → Nat} (h : RR Mm V) {k x : Nat} : RR (up2 Mm 1 k (nI x)) (sV V k x) := by
  intro j hj
  by_cases e : j = k
  · subst e; rw [u2_s, sV_s]
  · rw [u2_j e, sV_n e, h j hj]
theorem RR.fr {Mm Mm' : Mem} {V : Nat → Nat} (h : RR Mm V) (e : Mm' 1 = Mm 1) : RR Mm' V := fun j hj => by rw [e]; exact h j hj
theorem isB_le {v : Nat} (h : v ≤ 1) : isB (nI v) = true := by
  rcases (by omega : v = 0 ∨ v = 1) with e | e <;> rw [e] <;> rfl
theorem R_fail {n : Nat} {x : Int32} {M : Mem} : F_X10_fail n x M = some (nI 0, up2 M 0 0 x) := rfl
def inM (i j : Nat) : Prop := (59 + 10 * i ≤ j ∧ j < 69 + 10 * i) ∨ (119 + 12 * i ≤ j ∧ j < 131 + 12 * i) ∨ (191 + 36 * i ≤ j ∧ j < 227 + 36 * i)
theorem WM.keep {c c' i : Nat} {V V' : Nat → Nat} (h : WM c V i) (hc : c ≤ c') (h0 : V 0 ≤ V' 0) (hV : ∀ j, inM i j → V' j = V j) : WM c' V' i := by
  obtain ⟨a0, a1, a2, a3, a4, a5, a6, a7, a8, a9, a10, a11⟩ := h
  have e : ∀ j, j < 10 → V' (59 + 10 * i + j) = V (59 + 10 * i + j) := fun j hj => hV _ (.inl ⟨by omega, by omega⟩)
  have e0 : V' (59 + 10 * i) = V (59 + 10 * i) := e 0 (by decide)
  have el : ∀ k, k < V (59 + 10 * i + 5) → V' (119 + 12 * i + k) = V (119 + 12 * i + k) := fun k hk => hV _ (.inr (.inl ⟨by omega, by omega⟩))
  have ec : ∀ j, j < 36 → V' (191 + 36 * i + j) = V (191 + 36 * i + j) := fun j hj => hV _ (.inr (.inr ⟨by omega, by omega⟩))
  refine ⟨by rw [e0]; exact a0, by rw [e 1 (by decide)]; exact a1, by rw [e 2 (by decide)]; exact a2, by rw [e 3 (by decide)]; exact a3, by rw [e 4 (by decide)]; exact a4, by rw [e 5 (by decide)]; exact a5, by rw [e 6 (by decide)]; omega, by rw [e 7 (by decide)]; exact a7, ?_, ?_, ?_, ?_⟩
  · intro k hk
    rw [e 5 (by decide)] at hk
    rw [el k hk]
    exact Nat.lt_of_lt_of_le (a8 k hk) h0
  · intro k k' hk hk'
    rw [e 5 (by decide)] at hk'
    rw [el k (by omega), el k' hk']
    exact a9 k k' hk hk'
  · intro k hk
    rw [e 7 (by decide)] at hk
    have q := a10 k hk
    rw [Nat.add_assoc (191 + 36 * i), Nat.add_assoc (191 + 36 * i), ec (3 * k) (by omega), ec (3 * k + 1) (by omega), ec (3 * k + 2) (by omega)]
    exact ⟨Nat.lt_of_lt_of_le q.1 h0, q.2.1, q.2.2⟩
  · intro k k' hk hk'
    rw [e 7 (by decide)] at hk'
    rw [ec (3 * k) (by omega), ec (3 * k') (by omega)]
    exact a11 k k' hk hk'
theorem MR.keep {c i mo : Nat} {V V' : Nat → Nat} {M M' : Mem} (h : MR M mo V i) (W : WF c V) (hi : i < 6) (hM : ∀ k, mo ≤ k → k < mo + 4 → M' k = M k) (hV : ∀ j, inM i j → V' j = V j) (hw : ∀ f, f < V 0 → V' (17 + f) = V (17 + f)) : MR M' mo V' i := by
  obtain ⟨a0, a2, a3, a4, a7, a9, a10, a11, b1, b2, b3⟩ := h
  have hl := W.li hi
  have hcl := W.ci hi
  have m0 := hM mo (by omega) (by omega)
  have m1 := hM (mo + 1) (by omega) (by omega)
  have m2 := hM (mo + 2) (by omega) (by omega)
  have m3 := hM (mo + 3) (by omega) (by omega)
  have e : ∀ j, j < 10 → V' (59 + 10 * i + j) = V (59 + 10 * i + j) := fun j hj => hV _ (.inl ⟨by omega, by omega⟩)
  have e0 : V' (59 + 10 * i) = V (59 + 10 * i) := e 0 (by decide)
  have el : ∀ k, k < V (59 + 10 * i + 5) → V' (119 + 12 * i + k) = V (119 + 12 * i + k) := fun k hk => hV _ (.inr (.inl ⟨by omega, by omega⟩))
  have ec : ∀ j, j < 36 → V' (191 + 36 * i + j) = V (191 + 36 * i + j) := fun j hj => hV _ (.inr (.inr ⟨by omega, by omega⟩))
  have ek : ∀ k, k < V (59 + 10 * i + 7) → V' (191 + 36 * i + 3 * k) = V (191 + 36 * i + 3 * k) := fun k hk => ec (3 * k) (by omega)
  have ek1 : ∀ k, k < V (59 + 10 * i + 7) → V' (191 + 36 * i + 3 * k + 1) = V (191 + 36 * i + 3 * k + 1) := fun k hk => ec (3 * k + 1) (by omega)
  have ek2 : ∀ k, k < V (59 + 10 * i + 7) → V' (191 + 36 * i + 3 * k + 2) = V (191 + 36 * i + 3 * k + 2) := fun k hk => ec (3 * k + 2) (by omega)
  unfold MR
  rw [m0, m1, m2, m3, e0, e 5 (by decide), e 1 (by decide), e 4 (by decide), e 7 (by decide), e 2 (by decide), e 3 (by decide), e 6 (by decide)]
  refine ⟨a0, a2, a3, a4, a7, a9, a10, a11, fun k hk => by rw [el k hk]; exact b1 k hk, fun k hk => ⟨by rw [ek k hk]; exact (b2 k hk).1, ?_⟩, ?_⟩
  · unfold stg
    rw [ek1 k hk, ek k hk, hw _ (W.cf hi hk).1]
    exact (b2 k hk).2
  · obtain ⟨w, h1, h2, h3⟩ := b3
    refine ⟨w, h1, h2, fun f hf => (h3 f hf).trans ⟨?_, ?_⟩⟩
    · rintro ⟨k, p1, p2, p3⟩
      exact ⟨k, p1, by rw [ek k p1]; exact p2, by rw [ek2 k p1]; exact p3⟩
    · rintro ⟨k, p1, p2, p3⟩
      exact ⟨k, p1, by rw [← ek k p1]; exact p2, by rw [← ek2 k p1]; exact p3⟩
/-- the exception of a refusal -/
def kd (e : Nat) : Nat := if e ≤ 4 then 2 else if e ≤ 9 then 1 else if e ≤ 17 then 0 else if e ≤ 20 then 4 else 5
/-- a step of both: refused alike, or done alike -/
def StpR (a c : Nat) (L : List Nat) (B : Nat) (V : Nat → Nat) (M Mm : Mem) (rf : Mem → Option Nat) (dof : Mem → Option (Int32 × Mem)) (ref : Mem → Option (Int32 × Mem)) : Prop :=
  (∃ e, e ≠ 0 ∧ e < 23 ∧ kd e ∈ L ∧ rf M = some e ∧ ref Mm = some (nI 0, up2 Mm 0 0 (nI (L.idxOf (kd e) + 1)))) ∨
  (rf M = some 0 ∧ ∃ V' r Mm', r < B ∧ ref Mm = some (nI r, Mm') ∧ (∀ k, k ≠ 1 → Mm' k = Mm k) ∧ RR Mm' V' ∧ WF (c + 1) V' ∧
    ∀ M0, AR M0 a V → ∃ M', dof M0 = some (nI r, M') ∧ AR M' a V' ∧ ∀ k, k < a ∨ a + 31 ≤ k → M' k = M0 k)
theorem sV_lt {V : Nat → Nat} {B k x : Nat} (h : ∀ j, V j < B) (hx : x < B) : ∀ j, sV V k x j < B := fun j => by
  unfold sV
  split
  · exact hx
  · exact h j
theorem onN_le {V V' : Nat → Nat} {p : Nat} (h0 : V' 0 = V 0) (h : ∀ f, f < V 0 → V' (29 + f) = p + 1 → V (29 + f) = p + 1) : onN V' p ≤ onN V p := by
  unfold onN
  rw [h0]
  refine sm_mono (fun f hf => ?_)
  by_cases e : V' (29 + f) = p + 1
  · rw [if_pos e, if_pos (h f hf e)]; exact Nat.le_refl _
  · rw [if_neg e]; exact Nat.zero_le _
theorem AR.mot {a c i : Nat} {V V' : Nat → Nat} {M M' : Mem} (h : AR M a V) (W : WF c V) (hi : i < 6) (hM : ∀ k, k < a + 6 + 1 + 4 * i ∨ a + 6 + 1 + 4 * i + 4 ≤ k → M' k = M k) (hV : ∀ j, ¬ inM i j → V' j = V j) (hm : MR M' (a + 6 + 1 + 4 * i) V' i) : AR M' a V' := by
  have v : ∀ j, j < 59 → V' j = V j := fun j hj => hV j (by unfold inM; omega)
  unfold AR
  rw [hM a (by omega), hM (a + 1) (by omega), hM (a + 2) (by omega), hM (a + 3) (by omega), hM (a + 4) (by omega), hM (a + 5) (by omega), v 0 (by decide), v 1 (by decide), v 2 (by decide), v 3 (by decide), v 4 (by decide)]
  refine ⟨h.F, h.P, h.Mo, h.sp, h.mi, fun f hf => ?_, fun p hp => ?_, ?_, fun i' hi' => ?_⟩
  · rw [v (5 + f) (by omega), v (17 + f) (by omega), v (29 + f) (by omega), v (41 + f) (by omega)]
    exact h.fr f hf
  · rw [v (53 + p) (by omega)]
    exact h.ca p hp
  · obtain ⟨w, h1, h2, h3⟩ := h.ma
    exact ⟨w, h1, h2, fun f hf => by rw [v (29 + f) (by omega)]; exact h3 f hf⟩
  · by_cases e : i' = i
    · subst e; exact hm
    · exact (h.mo i' hi').keep W hi' (fun k _ _ => hM k (by omega)) (fun j hj => hV j (by unfold inM at *; omega)) (fun f hf => v (17 + f) (by have := W.F; omega))
theorem WF.mot {c c' i : Nat} {V V' : Nat → Nat} (W : WF c V) (hi : i < 6) (hc : c ≤ c') (hV : ∀ j, ¬ inM i j → V' j = V j) (hb : ∀ j, V' j < 65536) (hm : WM c' V' i) : WF c' V' := by
  have v : ∀ j, j < 59 → V' j = V j := fun j hj => hV j (by unfold inM; omega)
  refine ⟨hb, by rw [v 0 (by decide)]; exact W.F, by rw [v 1 (by decide)]; exact W.P, by rw [v 2 (by decide)]; exact W.M, by rw [v 3 (by decide)]; have := W.2.2.2.2.1; omega, by rw [v 4 (by decide)]; have := W.2.2.2.2.2.1; omega, fun f hf => ?_, fun p hp => ?_, fun i' hi' => ?_⟩
  · rw [v (5 + f) (by omega), v (17 + f) (by omega), v (29 + f) (by omega), v (41 + f) (by omega), v 0 (by decide), v 1 (by decide)]
    obtain ⟨q1, q2, q3, q4, q5⟩ := W.fr hf
    exact ⟨q1, q2, q3, q4, by omega⟩
  · rw [v (53 + p) (by omega)]
    have q := W.pd hp
    refine ⟨q.1, Nat.le_trans (onN_le (v 0 (by decide)) (fun f hf => ?_)) q.2⟩
    rw [v (29 + f) (by have := W.F; omega)]
    exact id
  · by_cases e : i' = i
    · subst e; exact hm
    · exact (W.mo hi').keep hc (by rw [v 0 (by decide)]; exact Nat.le_refl _) (fun j hj => hV j (by unfold inM at *; omega))
section STP
variable {n a c : Nat} {M Mm : Mem} {V : Nat → Nat}
theorem s_addFrog (hR : RR Mm V) (W : WF c V) (hc : c < 65000) (hA : AR M a V) (x1 x2 : Int32) :
    StpR a c [2, 1, 0] 65536 V M Mm (F_X2_refusalToAdmit n a x1 x2) (F_X2_admit n a x1 x2) (F_X10_adds n x1 x2) := by
  have hB := W.b
  have hF := W.F
  unfold StpR F_X2_refusalToAdmit F_X10_adds
  rcases i_or x1 with h1 | ⟨p0, hp, rfl⟩
  · refine .inl ⟨1, by decide, by decide, by decide, ?_, ?_⟩
    · simp (disch := first | omega | exact hB _) only [h1, ob_s, ob2_s, chk_t, lt_s', litI, n_add, n_mul, n_sub, inb_n, ix_n, n_le, n_lt, n_eq, n_bit, n_m1_lt, n_m1_eq, n_m1_m, n_ne_m, n_m_ne, n_m_lt0, n_0_le_m, if_true, if_false, eq_self, not_true_eq_false, not_false_eq_true, isB_0, isB_1, Bool.false_eq_true, true_and, and_true, false_and, and_false, and_self, Nat.one_ne_zero, Nat.zero_ne_one, reduceIte]
    · simp (disch := first | omega | exact hB _) only [R_isIn_neg h1, R_fail, ob_s, ob2_s, chk_t, lt_s', litI, n_add, n_mul, n_sub, inb_n, ix_n, n_le, n_lt, n_eq, n_bit, n_m1_lt, n_m1_eq, n_m1_m, n_ne_m, n_m_ne, n_m_lt0, n_0_le_m, if_true, if_false, eq_self, not_true_eq_false, not_false_eq_true, isB_0, isB_1, Bool.false_eq_true, true_and, and_true, false_and, and_false, and_self, Nat.one_ne_zero, Nat.zero_ne_one, reduceIte]
      rfl
  rcases (Decidable.em (p0 < 4)).symm with hp4 | hp4
  · refine .inl ⟨1, by decide, by decide, by decide, ?_, ?_⟩
    · simp (disch := first | omega | exact hB _) only [Nat.not_lt_zero, hp4, ob_s, ob2_s, chk_t, lt_s', litI, n_add, n_mul, n_sub, inb_n, ix_n, n_le, n_lt, n_eq, n_bit, n_m1_lt, n_m1_eq, n_m1_m, n_ne_m, n_m_ne, n_m_lt0, n_0_le_m, if_true, if_false, eq_self, not_true_eq_false, not_false_eq_true, isB_0, isB_1, Bool.false_eq_true, true_and, and_true, false_and, and_false, and_self, Nat.one_ne_zero, Nat.zero_ne_one, reduceIte]
    · have h5 : ¬ (0 ≤ p0 ∧ p0 ≤ 3) := by omega
      simp (disch := first | omega | exact hB _) only [R_isIn, h5, R_fail, ob_s, ob2_s, chk_t, lt_s', litI, n_add, n_mul, n_sub, inb_n, ix_n, n_le, n_lt, n_eq, n_bit, n_m1_lt, n_m1_eq, n_m1_m, n_ne_m, n_m_ne, n_m_lt0, n_0_le_m, if_true, if_false, eq_self, not_true_eq_false, not_false_eq_true, isB_0, isB_1, Bool.false_eq_true, true_and, and_true, false_and, and_false, and_self, Nat.one_ne_zero, Nat.zero_ne_one, reduceIte]
      rfl
  have hpi : 0 ≤ p0 ∧ p0 ≤ 3 := by omega
  rcases i_or x2 with h1 | ⟨w, hw, rfl⟩
  · have h2 := neg_lt (v := 1) h1 (by decide)
    refine .inl ⟨5, by decide, by decide, by decide, ?_, ?_⟩
    · simp (disch := first | omega | exact hB _) only [Nat.not_lt_zero, hp4, h2, ob_s, ob2_s, chk_t, lt_s', litI, n_add, n_mul, n_sub, inb_n, ix_n, n_le, n_lt, n_eq, n_bit, n_m1_lt, n_m1_eq, n_m1_m, n_ne_m, n_m_ne, n_m_lt0, n_0_le_m, if_true, if_false, eq_self, not_true_eq_false, not_false_eq_true, isB_0, isB_1, Bool.false_eq_true, true_and, and_true, false_and, and_false, and_self, Nat.one_ne_zero, Nat.zero_ne_one, reduceIte]
    · simp (disch := first | omega | exact hB _) only [R_isIn, hpi, R_isIn_neg h1, R_fail, ob_s, ob2_s, chk_t, lt_s', litI, n_add, n_mul, n_sub, inb_n, ix_n, n_le, n_lt, n_eq, n_bit, n_m1_lt, n_m1_eq, n_m1_m, n_ne_m, n_m_ne, n_m_lt0, n_0_le_m, if_true, if_false, eq_self, not_true_eq_false, not_false_eq_true, isB_0, isB_1, Bool.false_eq_true, true_and, and_true, false_and, and_false, and_self, Nat.one_ne_zero, Nat.zero_ne_one, reduceIte]
      rfl
  rcases (Decidable.em (1 ≤ w ∧ w ≤ 9)).symm with hw9 | hw9
  · refine .inl ⟨5, by decide, by decide, by decide, ?_, ?_⟩
    · simp (disch := first | omega | exact hB _) only [Nat.not_lt_zero, hp4, ob_s, ob2_s, chk_t, lt_s', litI, n_add, n_mul, n_sub, inb_n, ix_n, n_le, n_lt, n_eq, n_bit, n_m1_lt, n_m1_eq, n_m1_m, n_ne_m, n_m_ne, n_m_lt0, n_0_le_m, if_true, if_false, eq_self, not_true_eq_false, not_false_eq_true, isB_0, isB_1, Bool.false_eq_true, true_and, and_true, false_and, and_false, and_self, Nat.one_ne_zero, Nat.zero_ne_one, reduceIte]
      by_cases h : w < 1
      · simp (disch := first | omega | exact hB _) only [h, ob_s, ob2_s, chk_t, lt_s', litI, n_add, n_mul, n_sub, inb_n, ix_n, n_le, n_lt, n_eq, n_bit, n_m1_lt, n_m1_eq, n_m1_m, n_ne_m, n_m_ne, n_m_lt0, n_0_le_m, if_true, if_false, eq_self, not_true_eq_false, not_false_eq_true, isB_0, isB_1, Bool.false_eq_true, true_and, and_true, false_and, and_false, and_self, Nat.one_ne_zero, Nat.zero_ne_one, reduceIte]
      · have h2 : ¬ w ≤ 9 := by omega
        simp (disch := first | omega | exact hB _) only [h, h2, ob_s, ob2_s, chk_t, lt_s', litI, n_add, n_mul, n_sub, inb_n, ix_n, n_le, n_lt, n_eq, n_bit, n_m1_lt, n_m1_eq, n_m1_m, n_ne_m, n_m_ne, n_m_lt0, n_0_le_m, if_true, if_false, eq_self, not_true_eq_false, not_false_eq_true, isB_0, isB_1, Bool.false_eq_true, true_and, and_true, false_and, and_false, and_self, Nat.one_ne_zero, Nat.zero_ne_one, reduceIte]
    · simp (disch := first | omega | exact hB _) only [R_isIn, hpi, hw9, R_fail, ob_s, ob2_s, chk_t, lt_s', litI, n_add, n_mul, n_sub, inb_n, ix_n, n_le, n_lt, n_eq, n_bit, n_m1_lt, n_m1_eq, n_m1_m, n_ne_m, n_m_ne, n_m_lt0, n_0_le_m, if_true, if_false, eq_self, not_true_eq_false, not_false_eq_true, isB_0, isB_1, Bool.false_eq_true, true_and, and_true, false_and, and_false, and_self, Nat.one_ne_zero, Nat.zero_ne_one, reduceIte]
      rfl
  have hw1 : ¬ w < 1 := by omega
  by_cases hF2 : V 0 = 12
  · refine .inl ⟨10, by decide, by decide, by decide, ?_, ?_⟩
    · simp (disch := first | omega | exact hB _) only [Nat.not_lt_zero, hp4, hw1, hw9.2, hA.F, hF2, Nat.le_refl, ob_s, ob2_s, chk_t, lt_s', litI, n_add, n_mul, n_sub, inb_n, ix_n, n_le, n_lt, n_eq, n_bit, n_m1_lt, n_m1_eq, n_m1_m, n_ne_m, n_m_ne, n_m_lt0, n_0_le_m, if_true, if_false, eq_self, not_true_eq_false, not_false_eq_true, isB_0, isB_1, Bool.false_eq_true, true_and, and_true, false_and, and_false, and_self, Nat.one_ne_zero, Nat.zero_ne_one, reduceIte]
    · simp (disch := first | omega | exact hB _) only [R_isIn, hpi, hw9, hR, hF2, R_fail, ob_s, ob2_s, chk_t, lt_s', litI, n_add, n_mul, n_sub, inb_n, ix_n, n_le, n_lt, n_eq, n_bit, n_m1_lt, n_m1_eq, n_m1_m, n_ne_m, n_m_ne, n_m_lt0, n_0_le_m, if_true, if_false, eq_self, not_true_eq_false, not_false_eq_true, isB_0, isB_1, Bool.false_eq_true, true_and, and_true, false_and, and_false, and_self, Nat.one_ne_zero, Nat.zero_ne_one, reduceIte]
      rfl
  have hF3 : ¬ 12 ≤ V 0 := by omega
  refine .inr ⟨?_, sV (sV (sV V (5 + V 0) p0) (17 + V 0) w) 0 (V 0 + 1), V 0, up2 (up2 (up2 Mm 1 (5 + V 0) (nI p0)) 1 (17 + V 0) (nI w)) 1 0 (nI (V 0 + 1)), by omega, ?_, fun k hk => by rw [u2_k hk, u2_k hk, u2_k hk], hR.up.up.up, ?_, ?_⟩
  · simp (disch := first | omega | exact hB _) only [Nat.not_lt_zero, hp4, hw1, hw9.2, hA.F, hF3, ob_s, ob2_s, chk_t, lt_s', litI, n_add, n_mul, n_sub, inb_n, ix_n, n_le, n_lt, n_eq, n_bit, n_m1_lt, n_m1_eq, n_m1_m, n_ne_m, n_m_ne, n_m_lt0, n_0_le_m, if_true, if_false, eq_self, not_true_eq_false, not_false_eq_true, isB_0, isB_1, Bool.false_eq_true, true_and, and_true, false_and, and_false, and_self, Nat.one_ne_zero, Nat.zero_ne_one, reduceIte]
  · simp (disch := first | omega | exact hB _) only [R_isIn, hpi, hw9, hR, hF2, u2_j, u2_s, ob_s, ob2_s, chk_t, lt_s', litI, n_add, n_mul, n_sub, inb_n, ix_n, n_le, n_lt, n_eq, n_bit, n_m1_lt, n_m1_eq, n_m1_m, n_ne_m, n_m_ne, n_m_lt0, n_0_le_m, if_true, if_false, eq_self, not_true_eq_false, not_false_eq_true, isB_0, isB_1, Bool.false_eq_true, true_and, and_true, false_and, and_false, and_self, Nat.one_ne_zero, Nat.zero_ne_one, reduceIte]
  · refine ⟨sV_lt (sV_lt (sV_lt W.b6 (by omega)) (by omega)) (by omega), by rw [sV_s]; omega, by rw [sV_n (by omega), sV_n (by omega), sV_n (by omega)]; exact W.P, by rw [sV_n (by omega), sV_n (by omega), sV_n (by omega)]; exact W.M, by rw [sV_n (by omega), sV_n (by omega), sV_n (by omega)]; have := W.2.2.2.2.1; omega, by rw [sV_n (by omega), sV_n (by omega), sV_n (by omega)]; have := W.2.2.2.2.2.1; omega, ?_, ?_, ?_⟩
    · intro f hf
      obtain ⟨q1, q2, q3, q4, q5⟩ := W.fr hf
      simp only [sV]
      refine ⟨?_, ?_, ?_, ?_, ?_⟩ <;> (repeat' split) <;> omega
    · intro p hp
      rw [sV_n (by omega), sV_n (by omega), sV_n (by omega)]
      have q := W.pd hp
      refine ⟨q.1, ?_⟩
      have e : onN (sV (sV (sV V (5 + V 0) p0) (17 + V 0) w) 0 (V 0 + 1)) p = onN V p := by
        unfold onN
        have z := (W.fr (f := V 0) (by omega)).2.2.2.1 (Nat.le_refl _)
        rw [sV_s, sm_s, sm_congr (g' := fun f => if V (29 + f) = p + 1 then 1 else 0) (fun f hf => by rw [sV_n (by omega), sV_n (by omega), sV_n (by omega)]), sV_n (by omega), sV_n (by omega), sV_n (by omega), z, if_neg (by omega), Nat.add_zero]
      rw [e]
      exact q.2
    · intro i hi
      refine (W.mo hi).keep (by omega) (by rw [sV_s]; omega) (fun j hj => ?_)
      unfold inM at hj
      rw [sV_n (by omega), sV_n (by omega), sV_n (by omega)]
  · intro M0 hA
    refine ⟨up2 (up2 (up2 (up2 M0 (a + 1) (V 0) (nI p0)) (a + 2) (V 0) (nI w)) (a + 3) (V 0) (-nI 1)) a 0 (nI (V 0 + 1)), ?_, ?_, fun k hk => by rw [u2_k (by omega), u2_k (by omega), u2_k (by omega), u2_k (by omega)]⟩
    · unfold F_X2_admit
      simp (disch := first | omega | exact hB _) only [hA.F, u2_k, u2_j, ob_s, ob2_s, chk_t, lt_s', litI, n_add, n_mul, n_sub, inb_n, ix_n, n_le, n_lt, n_eq, n_bit, n_m1_lt, n_m1_eq, n_m1_m, n_ne_m, n_m_ne, n_m_lt0, n_0_le_m, if_true, if_false, eq_self, not_true_eq_false, not_false_eq_true, isB_0, isB_1, Bool.false_eq_true, true_and, and_true, false_and, and_false, and_self, Nat.one_ne_zero, Nat.zero_ne_one, reduceIte]
    · refine ⟨?_, ?_, ?_, ?_, ?_, ?_, ?_, ?_, ?_⟩
      · rw [u2_s, sV_s]
      · simp (disch := first | omega | exact hB _) only [u2_k, u2_j, sV_n, hA.P, ob_s, ob2_s, chk_t, lt_s', litI, n_add, n_mul, n_sub, inb_n, ix_n, n_le, n_lt, n_eq, n_bit, n_m1_lt, n_m1_eq, n_m1_m, n_ne_m, n_m_ne, n_m_lt0, n_0_le_m, if_true, if_false, eq_self, not_true_eq_false, not_false_eq_true, isB_0, isB_1, Bool.false_eq_true, true_and, and_true, false_and, and_false, and_self, Nat.one_ne_zero, Nat.zero_ne_one, reduceIte]
      · simp (disch := first | omega | exact hB _) only [u2_k, u2_j, sV_n, hA.Mo, ob_s, ob2_s, chk_t, lt_s', litI, n_add, n_mul, n_sub, inb_n, ix_n, n_le, n_lt, n_eq, n_bit, n_m1_lt, n_m1_eq, n_m1_m, n_ne_m, n_m_ne, n_m_lt0, n_0_le_m, if_true, if_false, eq_self, not_true_eq_false, not_false_eq_true, isB_0, isB_1, Bool.false_eq_true, true_and, and_true, false_and, and_false, and_self, Nat.one_ne_zero, Nat.zero_ne_one, reduceIte]
      · simp (disch := first | omega | exact hB _) only [u2_k, u2_j, sV_n, hA.sp, ob_s, ob2_s, chk_t, lt_s', litI, n_add, n_mul, n_sub, inb_n, ix_n, n_le, n_lt, n_eq, n_bit, n_m1_lt, n_m1_eq, n_m1_m, n_ne_m, n_m_ne, n_m_lt0, n_0_le_m, if_true, if_false, eq_self, not_true_eq_false, not_false_eq_true, isB_0, isB_1, Bool.false_eq_true, true_and, and_true, false_and, and_false, and_self, Nat.one_ne_zero, Nat.zero_ne_one, reduceIte]
      · simp (disch := first | omega | exact hB _) only [u2_k, u2_j, sV_n, hA.mi, ob_s, ob2_s, chk_t, lt_s', litI, n_add, n_mul, n_sub, inb_n, ix_n, n_le, n_lt, n_eq, n_bit, n_m1_lt, n_m1_eq, n_m1_m, n_ne_m, n_m_ne, n_m_lt0, n_0_le_m, if_true, if_false, eq_self, not_true_eq_false, not_false_eq_true, isB_0, isB_1, Bool.false_eq_true, true_and, and_true, false_and, and_false, and_self, Nat.one_ne_zero, Nat.zero_ne_one, reduceIte]
      · intro f hf
        have q4 := (W.fr hf).2.2.2.1
        obtain ⟨e1, e2, e3, e4⟩ := hA.fr f hf
        by_cases e : f = V 0
        · subst e
          have q5 := q4 (Nat.le_refl _)
          refine ⟨?_, ?_, fun _ => ?_, ?_⟩
          · simp (disch := first | omega | exact hB _) only [u2_k, u2_j, u2_s, sV_n, sV_s, ob_s, ob2_s, chk_t, lt_s', litI, n_add, n_mul, n_sub, inb_n, ix_n, n_le, n_lt, n_eq, n_bit, n_m1_lt, n_m1_eq, n_m1_m, n_ne_m, n_m_ne, n_m_lt0, n_0_le_m, if_true, if_false, eq_self, not_true_eq_false, not_false_eq_true, isB_0, isB_1, Bool.false_eq_true, true_and, and_true, false_and, and_false, and_self, Nat.one_ne_zero, Nat.zero_ne_one, reduceIte]
          · simp (disch := first | omega | exact hB _) only [u2_k, u2_j, u2_s, sV_n, sV_s, ob_s, ob2_s, chk_t, lt_s', litI, n_add, n_mul, n_sub, inb_n, ix_n, n_le, n_lt, n_eq, n_bit, n_m1_lt, n_m1_eq, n_m1_m, n_ne_m, n_m_ne, n_m_lt0, n_0_le_m, if_true, if_false, eq_self, not_true_eq_false, not_false_eq_true, isB_0, isB_1, Bool.false_eq_true, true_and, and_true, false_and, and_false, and_self, Nat.one_ne_zero, Nat.zero_ne_one, reduceIte]
          · simp (disch := first | omega | exact hB _) only [u2_k, u2_j, u2_s, sV_n, sV_s, q5, ob_s, ob2_s, chk_t, lt_s', litI, n_add, n_mul, n_sub, inb_n, ix_n, n_le, n_lt, n_eq, n_bit, n_m1_lt, n_m1_eq, n_m1_m, n_ne_m, n_m_ne, n_m_lt0, n_0_le_m, if_true, if_false, eq_self, not_true_eq_false, not_false_eq_true, isB_0, isB_1, Bool.false_eq_true, true_and, and_true, false_and, and_false, and_self, Nat.one_ne_zero, Nat.zero_ne_one, reduceIte]
            rfl
          · simp (disch := first | omega | exact hB _) only [u2_k, u2_j, u2_s, sV_n, sV_s, e4, ob_s, ob2_s, chk_t, lt_s', litI, n_add, n_mul, n_sub, inb_n, ix_n, n_le, n_lt, n_eq, n_bit, n_m1_lt, n_m1_eq, n_m1_m, n_ne_m, n_m_ne, n_m_lt0, n_0_le_m, if_true, if_false, eq_self, not_true_eq_false, not_false_eq_true, isB_0, isB_1, Bool.false_eq_true, true_and, and_true, false_and, and_false, and_self, Nat.one_ne_zero, Nat.zero_ne_one, reduceIte]
        · refine ⟨?_, ?_, fun hf2 => ?_, ?_⟩
          · simp (disch := first | omega | exact hB _) only [u2_k, u2_j, u2_s, sV_n, sV_s, e1, ob_s, ob2_s, chk_t, lt_s', litI, n_add, n_mul, n_sub, inb_n, ix_n, n_le, n_lt, n_eq, n_bit, n_m1_lt, n_m1_eq, n_m1_m, n_ne_m, n_m_ne, n_m_lt0, n_0_le_m, if_true, if_false, eq_self, not_true_eq_false, not_false_eq_true, isB_0, isB_1, Bool.false_eq_true, true_and, and_true, false_and, and_false, and_self, Nat.one_ne_zero, Nat.zero_ne_one, reduceIte]
          · simp (disch := first | omega | exact hB _) only [u2_k, u2_j, u2_s, sV_n, sV_s, e2, ob_s, ob2_s, chk_t, lt_s', litI, n_add, n_mul, n_sub, inb_n, ix_n, n_le, n_lt, n_eq, n_bit, n_m1_lt, n_m1_eq, n_m1_m, n_ne_m, n_m_ne, n_m_lt0, n_0_le_m, if_true, if_false, eq_self, not_true_eq_false, not_false_eq_true, isB_0, isB_1, Bool.false_eq_true, true_and, and_true, false_and, and_false, and_self, Nat.one_ne_zero, Nat.zero_ne_one, reduceIte]
          · rw [sV_s] at hf2
            rw [u2_k (by omega), u2_j (by omega), u2_k (by omega), u2_k (by omega), sV_n (by omega), sV_n (by omega), sV_n (by omega)]
            exact e3 (by omega)
          · simp (disch := first | omega | exact hB _) only [u2_k, u2_j, u2_s, sV_n, sV_s, e4, ob_s, ob2_s, chk_t, lt_s', litI, n_add, n_mul, n_sub, inb_n, ix_n, n_le, n_lt, n_eq, n_bit, n_m1_lt, n_m1_eq, n_m1_m, n_ne_m, n_m_ne, n_m_lt0, n_0_le_m, if_true, if_false, eq_self, not_true_eq_false, not_false_eq_true, isB_0, isB_1, Bool.false_eq_true, true_and, and_true, false_and, and_false, and_self, Nat.one_ne_zero, Nat.zero_ne_one, reduceIte]
      · intro p hp
        simp (disch := first | omega | exact hB _) only [u2_k, u2_j, sV_n, hA.ca, ob_s, ob2_s, chk_t, lt_s', litI, n_add, n_mul, n_sub, inb_n, ix_n, n_le, n_lt, n_eq, n_bit, n_m1_lt, n_m1_eq, n_m1_m, n_ne_m, n_m_ne, n_m_lt0, n_0_le_m, if_true, if_false, eq_self, not_true_eq_false, not_false_eq_true, isB_0, isB_1, Bool.false_eq_true, true_and, and_true, false_and, and_false, and_self, Nat.one_ne_zero, Nat.zero_ne_one, reduceIte]
      · obtain ⟨w, h1, h2, h3⟩ := hA.ma
        refine ⟨w, h1, ?_, fun f hf => ?_⟩
        · simp (disch := first | omega | exact hB _) only [u2_k, u2_j, sV_n, h2, ob_s, ob2_s, chk_t, lt_s', litI, n_add, n_mul, n_sub, inb_n, ix_n, n_le, n_lt, n_eq, n_bit, n_m1_lt, n_m1_eq, n_m1_m, n_ne_m, n_m_ne, n_m_lt0, n_0_le_m, if_true, if_false, eq_self, not_true_eq_false, not_false_eq_true, isB_0, isB_1, Bool.false_eq_true, true_and, and_true, false_and, and_false, and_self, Nat.one_ne_zero, Nat.zero_ne_one, reduceIte]
        · rw [h3 f hf, sV_n (by omega), sV_n (by omega), sV_n (by omega)]
      · intro i hi
        refine (hA.mo i hi).keep W hi (fun k hk1 hk2 => ?_) (fun j hj => ?_) (fun f hf => ?_)
        · rw [u2_k (by omega), u2_k (by omega), u2_k (by omega), u2_k (by omega)]
        · unfold inM at hj
          rw [sV_n (by omega), sV_n (by omega), sV_n (by omega)]
        · rw [sV_n (by omega), sV_n (by omega), sV_n (by omega)]
theorem s_addPad (hR : RR Mm V) (W : WF c V) (hc : c < 65000) (hA : AR M a V) (x1 : Int32) :
    StpR a c [1, 0] 65536 V M Mm (F_X2_refusalToLay n a x1) (F_X2_lay n a x1) (F_X10_addsPad n x1) := by
  have hB := W.b
  have hF := W.F
  have hP := W.P
  unfold StpR F_X2_refusalToLay F_X10_addsPad
  rcases i_or x1 with h1 | ⟨p0, hp, rfl⟩
  · have h2 := neg_lt (v := 1) h1 (by decide)
    refine .inl ⟨6, by decide, by decide, by decide, ?_, ?_⟩
    · simp (disch := first | omega | exact hB _) only [h2, ob_s, ob2_s, chk_t, lt_s', litI, n_add, n_mul, n_sub, inb_n, ix_n, n_le, n_lt, n_eq, n_bit, n_m1_lt, n_m1_eq, n_m1_m, n_ne_m, n_m_ne, n_m_lt0, n_0_le_m, if_true, if_false, eq_self, not_true_eq_false, not_false_eq_true, isB_0, isB_1, Bool.false_eq_true, true_and, and_true, false_and, and_false, and_self, Nat.one_ne_zero, Nat.zero_ne_one, reduceIte]
    · simp (disch := first | omega | exact hB _) only [R_isIn_neg h1, R_fail, ob_s, ob2_s, chk_t, lt_s', litI, n_add, n_mul, n_sub, inb_n, ix_n, n_le, n_lt, n_eq, n_bit, n_m1_lt, n_m1_eq, n_m1_m, n_ne_m, n_m_ne, n_m_lt0, n_0_le_m, if_true, if_false, eq_self, not_true_eq_false, not_false_eq_true, isB_0, isB_1, Bool.false_eq_true, true_and, and_true, false_and, and_false, and_self, Nat.one_ne_zero, Nat.zero_ne_one, reduceIte]
      rfl
  rcases (Decidable.em (1 ≤ p0 ∧ p0 ≤ 4)).symm with hw9 | hw9
  · refine .inl ⟨6, by decide, by decide, by decide, ?_, ?_⟩
    · by_cases h : p0 < 1
      · simp (disch := first | omega | exact hB _) only [h, ob_s, ob2_s, chk_t, lt_s', litI, n_add, n_mul, n_sub, inb_n, ix_n, n_le, n_lt, n_eq, n_bit, n_m1_lt, n_m1_eq, n_m1_m, n_ne_m, n_m_ne, n_m_lt0, n_0_le_m, if_true, if_false, eq_self, not_true_eq_false, not_false_eq_true, isB_0, isB_1, Bool.false_eq_true, true_and, and_true, false_and, and_false, and_self, Nat.one_ne_zero, Nat.zero_ne_one, reduceIte]
      · have h2 : ¬ p0 ≤ 4 := by omega
        simp (disch := first | omega | exact hB _) only [h, h2, ob_s, ob2_s, chk_t, lt_s', litI, n_add, n_mul, n_sub, inb_n, ix_n, n_le, n_lt, n_eq, n_bit, n_m1_lt, n_m1_eq, n_m1_m, n_ne_m, n_m_ne, n_m_lt0, n_0_le_m, if_true, if_false, eq_self, not_true_eq_false, not_false_eq_true, isB_0, isB_1, Bool.false_eq_true, true_and, and_true, false_and, and_false, and_self, Nat.one_ne_zero, Nat.zero_ne_one, reduceIte]
    · simp (disch := first | omega | exact hB _) only [R_isIn, hw9, R_fail, ob_s, ob2_s, chk_t, lt_s', litI, n_add, n_mul, n_sub, inb_n, ix_n, n_le, n_lt, n_eq, n_bit, n_m1_lt, n_m1_eq, n_m1_m, n_ne_m, n_m_ne, n_m_lt0, n_0_le_m, if_true, if_false, eq_self, not_true_eq_false, not_false_eq_true, isB_0, isB_1, Bool.false_eq_true, true_and, and_true, false_and, and_false, and_self, Nat.one_ne_zero, Nat.zero_ne_one, reduceIte]
      rfl
  have hw1 : ¬ p0 < 1 := by omega
  by_cases hF2 : V 1 = 6
  · refine .inl ⟨10, by decide, by decide, by decide, ?_, ?_⟩
    · simp (disch := first | omega | exact hB _) only [hw1, hw9.2, hA.P, hF2, Nat.le_refl, ob_s, ob2_s, chk_t, lt_s', litI, n_add, n_mul, n_sub, inb_n, ix_n, n_le, n_lt, n_eq, n_bit, n_m1_lt, n_m1_eq, n_m1_m, n_ne_m, n_m_ne, n_m_lt0, n_0_le_m, if_true, if_false, eq_self, not_true_eq_false, not_false_eq_true, isB_0, isB_1, Bool.false_eq_true, true_and, and_true, false_and, and_false, and_self, Nat.one_ne_zero, Nat.zero_ne_one, reduceIte]
    · simp (disch := first | omega | exact hB _) only [R_isIn, hw9, hR, hF2, R_fail, ob_s, ob2_s, chk_t, lt_s', litI, n_add, n_mul, n_sub, inb_n, ix_n, n_le, n_lt, n_eq, n_bit, n_m1_lt, n_m1_eq, n_m1_m, n_ne_m, n_m_ne, n_m_lt0, n_0_le_m, if_true, if_false, eq_self, not_true_eq_false, not_false_eq_true, isB_0, isB_1, Bool.false_eq_true, true_and, and_true, false_and, and_false, and_self, Nat.one_ne_zero, Nat.zero_ne_one, reduceIte]
      rfl
  have hF3 : ¬ 6 ≤ V 1 := by omega
  refine .inr ⟨?_, sV (sV V (53 + V 1) p0) 1 (V 1 + 1), V 1, up2 (up2 Mm 1 (53 + V 1) (nI p0)) 1 1 (nI (V 1 + 1)), by omega, ?_, fun k hk => by rw [u2_k hk, u2_k hk], hR.up.up, ?_, ?_⟩
  · simp (disch := first | omega | exact hB _) only [hw1, hw9.2, hA.P, hF3, ob_s, ob2_s, chk_t, lt_s', litI, n_add, n_mul, n_sub, inb_n, ix_n, n_le, n_lt, n_eq, n_bit, n_m1_lt, n_m1_eq, n_m1_m, n_ne_m, n_m_ne, n_m_lt0, n_0_le_m, if_true, if_false, eq_self, not_true_eq_false, not_false_eq_true, isB_0, isB_1, Bool.false_eq_true, true_and, and_true, false_and, and_false, and_self, Nat.one_ne_zero, Nat.zero_ne_one, reduceIte]
  · simp (disch := first | omega | exact hB _) only [R_isIn, hw9, hR, hF2, u2_j, u2_s, ob_s, ob2_s, chk_t, lt_s', litI, n_add, n_mul, n_sub, inb_n, ix_n, n_le, n_lt, n_eq, n_bit, n_m1_lt, n_m1_eq, n_m1_m, n_ne_m, n_m_ne, n_m_lt0, n_0_le_m, if_true, if_false, eq_self, not_true_eq_false, not_false_eq_true, isB_0, isB_1, Bool.false_eq_true, true_and, and_true, false_and, and_false, and_self, Nat.one_ne_zero, Nat.zero_ne_one, reduceIte]
  · refine ⟨sV_lt (sV_lt W.b6 (by omega)) (by omega), by rw [sV_n (by omega), sV_n (by omega)]; exact hF, by rw [sV_s]; omega, by rw [sV_n (by omega), sV_n (by omega)]; exact W.M, by rw [sV_n (by omega), sV_n (by omega)]; have := W.2.2.2.2.1; omega, by rw [sV_n (by omega), sV_n (by omega)]; have := W.2.2.2.2.2.1; omega, ?_, ?_, ?_⟩
    · intro f hf
      obtain ⟨q1, q2, q3, q4, q5⟩ := W.fr hf
      simp only [sV]
      refine ⟨?_, ?_, ?_, ?_, ?_⟩ <;> (repeat' split) <;> omega
    · intro p hp
      have q := W.pd hp
      have e : onN (sV (sV V (53 + V 1) p0) 1 (V 1 + 1)) p ≤ onN V p := onN_le (by rw [sV_n (by omega), sV_n (by omega)]) (fun f hf => by rw [sV_n (by omega), sV_n (by omega)]; exact id)
      by_cases e2 : p = V 1
      · subst e2
        have z : onN V (V 1) = 0 := sm_0 (fun f hf => if_neg (by have := (W.fr (f := f) (by omega)).2.2.1; omega))
        rw [sV_n (by omega), sV_s]
        exact ⟨by omega, by omega⟩
      · rw [sV_n (by omega), sV_n (by omega)]
        exact ⟨q.1, by omega⟩
    · intro i hi
      refine (W.mo hi).keep (by omega) (by rw [sV_n (by omega), sV_n (by omega)]; exact Nat.le_refl _) (fun j hj => ?_)
      unfold inM at hj
      rw [sV_n (by omega), sV_n (by omega)]
  · intro M0 hA
    refine ⟨up2 (up2 M0 (a + 5) (V 1) (nI p0)) a 6 (nI (V 1 + 1)), ?_, ?_, fun k hk => by rw [u2_k (by omega), u2_k (by omega)]⟩
    · unfold F_X2_lay
      simp (disch := first | omega | exact hB _) only [hA.P, u2_k, u2_j, ob_s, ob2_s, chk_t, lt_s', litI, n_add, n_mul, n_sub, inb_n, ix_n, n_le, n_lt, n_eq, n_bit, n_m1_lt, n_m1_eq, n_m1_m, n_ne_m, n_m_ne, n_m_lt0, n_0_le_m, if_true, if_false, eq_self, not_true_eq_false, not_false_eq_true, isB_0, isB_1, Bool.false_eq_true, true_and, and_true, false_and, and_false, and_self, Nat.one_ne_zero, Nat.zero_ne_one, reduceIte]
    · refine ⟨?_, ?_, ?_, ?_, ?_, ?_, ?_, ?_, ?_⟩
      · simp (disch := first | omega | exact hB _) only [u2_k, u2_j, sV_n, hA.F, ob_s, ob2_s, chk_t, lt_s', litI, n_add, n_mul, n_sub, inb_n, ix_n, n_le, n_lt, n_eq, n_bit, n_m1_lt, n_m1_eq, n_m1_m, n_ne_m, n_m_ne, n_m_lt0, n_0_le_m, if_true, if_false, eq_self, not_true_eq_false, not_false_eq_true, isB_0, isB_1, Bool.false_eq_true, true_and, and_true, false_and, and_false, and_self, Nat.one_ne_zero, Nat.zero_ne_one, reduceIte]
      · rw [u2_s, sV_s]
      · simp (disch := first | omega | exact hB _) only [u2_k, u2_j, sV_n, hA.Mo, ob_s, ob2_s, chk_t, lt_s', litI, n_add, n_mul, n_sub, inb_n, ix_n, n_le, n_lt, n_eq, n_bit, n_m1_lt, n_m1_eq, n_m1_m, n_ne_m, n_m_ne, n_m_lt0, n_0_le_m, if_true, if_false, eq_self, not_true_eq_false, not_false_eq_true, isB_0, isB_1, Bool.false_eq_true, true_and, and_true, false_and, and_false, and_self, Nat.one_ne_zero, Nat.zero_ne_one, reduceIte]
      · simp (disch := first | omega | exact hB _) only [u2_k, u2_j, sV_n, hA.sp, ob_s, ob2_s, chk_t, lt_s', litI, n_add, n_mul, n_sub, inb_n, ix_n, n_le, n_lt, n_eq, n_bit, n_m1_lt, n_m1_eq, n_m1_m, n_ne_m, n_m_ne, n_m_lt0, n_0_le_m, if_true, if_false, eq_self, not_true_eq_false, not_false_eq_true, isB_0, isB_1, Bool.false_eq_true, true_and, and_true, false_and, and_false, and_self, Nat.one_ne_zero, Nat.zero_ne_one, reduceIte]
      · simp (disch := first | omega | exact hB _) only [u2_k, u2_j, sV_n, hA.mi, ob_s, ob2_s, chk_t, lt_s', litI, n_add, n_mul, n_sub, inb_n, ix_n, n_le, n_lt, n_eq, n_bit, n_m1_lt, n_m1_eq, n_m1_m, n_ne_m, n_m_ne, n_m_lt0, n_0_le_m, if_true, if_false, eq_self, not_true_eq_false, not_false_eq_true, isB_0, isB_1, Bool.false_eq_true, true_and, and_true, false_and, and_false, and_self, Nat.one_ne_zero, Nat.zero_ne_one, reduceIte]
      · intro f hf
        rw [u2_k (by omega), u2_k (by omega), u2_k (by omega), u2_k (by omega), u2_k (by omega), u2_k (by omega), u2_k (by omega), u2_k (by omega)]
        simp (disch := first | omega | exact hB _) only [sV_n, ob_s, ob2_s, chk_t, lt_s', litI, n_add, n_mul, n_sub, inb_n, ix_n, n_le, n_lt, n_eq, n_bit, n_m1_lt, n_m1_eq, n_m1_m, n_ne_m, n_m_ne, n_m_lt0, n_0_le_m, if_true, if_false, eq_self, not_true_eq_false, not_false_eq_true, isB_0, isB_1, Bool.false_eq_true, true_and, and_true, false_and, and_false, and_self, Nat.one_ne_zero, Nat.zero_ne_one, reduceIte]
        exact hA.fr f hf
      · intro p hp
        rw [u2_k (by omega)]
        by_cases e : p = V 1
        · subst e; rw [u2_s, sV_n (by omega), sV_s]
        · rw [u2_j e, sV_n (by omega), sV_n (by omega)]; exact hA.ca p hp
      · obtain ⟨w, h1, h2, h3⟩ := hA.ma
        refine ⟨w, h1, ?_, fun f hf => ?_⟩
        · simp (disch := first | omega | exact hB _) only [u2_k, u2_j, sV_n, h2, ob_s, ob2_s, chk_t, lt_s', litI, n_add, n_mul, n_sub, inb_n, ix_n, n_le, n_lt, n_eq, n_bit, n_m1_lt, n_m1_eq, n_m1_m, n_ne_m, n_m_ne, n_m_lt0, n_0_le_m, if_true, if_false, eq_self, not_true_eq_false, not_false_eq_true, isB_0, isB_1, Bool.false_eq_true, true_and, and_true, false_and, and_false, and_self, Nat.one_ne_zero, Nat.zero_ne_one, reduceIte]
        · rw [h3 f hf, sV_n (by omega), sV_n (by omega)]
      · intro i hi
        refine (hA.mo i hi).keep W hi (fun k hk1 hk2 => ?_) (fun j hj => ?_) (fun f hf => ?_)
        · rw [u2_k (by omega), u2_k (by omega)]
        · unfold inM at hj
          rw [sV_n (by omega), sV_n (by omega)]
        · rw [sV_n (by omega), sV_n (by omega)]
/-- seating: only places of sitting change -/
theorem seat_WF (W : WF c V) {f v : Nat} (hf : f < V 0) (hv : v ≤ V 1) (hc : ∀ p, p < 6 → onN (sV V (29 + f) v) p ≤ V (53 + p)) : WF (c + 1) (sV V (29 + f) v) := by
  have hF := W.F
  have hP := W.P
  refine ⟨sV_lt W.b6 (by omega), by rw [sV_n (by omega)]; exact hF, by rw [sV_n (by omega)]; exact hP, by rw [sV_n (by omega)]; exact W.M, by rw [sV_n (by omega)]; have := W.2.2.2.2.1; omega, by rw [sV_n (by omega)]; have := W.2.2.2.2.2.1; omega, ?_, ?_, ?_⟩
  · intro g hg
    obtain ⟨q1, q2, q3, q4, q5⟩ := W.fr hg
    simp only [sV]
    refine ⟨?_, ?_, ?_, ?_, ?_⟩ <;> (repeat' split) <;> omega
  · intro p hp
    rw [sV_n (by omega)]
    exact ⟨(W.pd hp).1, hc p hp⟩
  · intro i hi
    refine (W.mo hi).keep (by omega) (by rw [sV_n (by omega)]; exact Nat.le_refl _) (fun j hj => ?_)
    unfold inM at hj
    rw [sV_n (by omega)]
theorem seat_AR (W : WF c V) (hA : AR M a V) {f v w' : Nat} {x : Int32} (hf : f < V 0) (hx : x = nI v - nI 1) (hw' : w' < 4096) (hbit : ∀ g, g < 12 → (w'.testBit g = true ↔ (sV V (29 + f) v) (29 + g) ≠ 0)) : AR (up2 (up2 M (a + 3) f x) a 5 (nI w')) a (sV V (29 + f) v) := by
  have hB := W.b
  have hF := W.F
  refine ⟨?_, ?_, ?_, ?_, ?_, ?_, ?_, ?_, ?_⟩
  · simp (disch := first | omega | exact hB _) only [u2_k, u2_j, sV_n, hA.F, ob_s, ob2_s, chk_t, lt_s', litI, n_add, n_mul, n_sub, inb_n, ix_n, n_le, n_lt, n_eq, n_bit, n_m1_lt, n_m1_eq, n_m1_m, n_ne_m, n_m_ne, n_m_lt0, n_0_le_m, if_true, if_false, eq_self, not_true_eq_false, not_false_eq_true, isB_0, isB_1, Bool.false_eq_true, true_and, and_true, false_and, and_false, and_self, Nat.one_ne_zero, Nat.zero_ne_one, reduceIte]
  · simp (disch := first | omega | exact hB _) only [u2_k, u2_j, sV_n, hA.P, ob_s, ob2_s, chk_t, lt_s', litI, n_add, n_mul, n_sub, inb_n, ix_n, n_le, n_lt, n_eq, n_bit, n_m1_lt, n_m1_eq, n_m1_m, n_ne_m, n_m_ne, n_m_lt0, n_0_le_m, if_true, if_false, eq_self, not_true_eq_false, not_false_eq_true, isB_0, isB_1, Bool.false_eq_true, true_and, and_true, false_and, and_false, and_self, Nat.one_ne_zero, Nat.zero_ne_one, reduceIte]
  · simp (disch := first | omega | exact hB _) only [u2_k, u2_j, sV_n, hA.Mo, ob_s, ob2_s, chk_t, lt_s', litI, n_add, n_mul, n_sub, inb_n, ix_n, n_le, n_lt, n_eq, n_bit, n_m1_lt, n_m1_eq, n_m1_m, n_ne_m, n_m_ne, n_m_lt0, n_0_le_m, if_true, if_false, eq_self, not_true_eq_false, not_false_eq_true, isB_0, isB_1, Bool.false_eq_true, true_and, and_true, false_and, and_false, and_self, Nat.one_ne_zero, Nat.zero_ne_one, reduceIte]
  · simp (disch := first | omega | exact hB _) only [u2_k, u2_j, sV_n, hA.sp, ob_s, ob2_s, chk_t, lt_s', litI, n_add, n_mul, n_sub, inb_n, ix_n, n_le, n_lt, n_eq, n_bit, n_m1_lt, n_m1_eq, n_m1_m, n_ne_m, n_m_ne, n_m_lt0, n_0_le_m, if_true, if_false, eq_self, not_true_eq_false, not_false_eq_true, isB_0, isB_1, Bool.false_eq_true, true_and, and_true, false_and, and_false, and_self, Nat.one_ne_zero, Nat.zero_ne_one, reduceIte]
  · simp (disch := first | omega | exact hB _) only [u2_k, u2_j, sV_n, hA.mi, ob_s, ob2_s, chk_t, lt_s', litI, n_add, n_mul, n_sub, inb_n, ix_n, n_le, n_lt, n_eq, n_bit, n_m1_lt, n_m1_eq, n_m1_m, n_ne_m, n_m_ne, n_m_lt0, n_0_le_m, if_true, if_false, eq_self, not_true_eq_false, not_false_eq_true, isB_0, isB_1, Bool.false_eq_true, true_and, and_true, false_and, and_false, and_self, Nat.one_ne_zero, Nat.zero_ne_one, reduceIte]
  · intro g hg
    obtain ⟨e1, e2, e3, e4⟩ := hA.fr g hg
    refine ⟨?_, ?_, fun hg2 => ?_, ?_⟩
    · simp (disch := first | omega | exact hB _) only [u2_k, u2_j, sV_n, e1, ob_s, ob2_s, chk_t, lt_s', litI, n_add, n_mul, n_sub, inb_n, ix_n, n_le, n_lt, n_eq, n_bit, n_m1_lt, n_m1_eq, n_m1_m, n_ne_m, n_m_ne, n_m_lt0, n_0_le_m, if_true, if_false, eq_self, not_true_eq_false, not_false_eq_true, isB_0, isB_1, Bool.false_eq_true, true_and, and_true, false_and, and_false, and_self, Nat.one_ne_zero, Nat.zero_ne_one, reduceIte]
    · simp (disch := first | omega | exact hB _) only [u2_k, u2_j, sV_n, e2, ob_s, ob2_s, chk_t, lt_s', litI, n_add, n_mul, n_sub, inb_n, ix_n, n_le, n_lt, n_eq, n_bit, n_m1_lt, n_m1_eq, n_m1_m, n_ne_m, n_m_ne, n_m_lt0, n_0_le_m, if_true, if_false, eq_self, not_true_eq_false, not_false_eq_true, isB_0, isB_1, Bool.false_eq_true, true_and, and_true, false_and, and_false, and_self, Nat.one_ne_zero, Nat.zero_ne_one, reduceIte]
    · rw [sV_n (by omega)] at hg2
      rw [u2_k (by omega)]
      by_cases e : g = f
      · subst e; rw [u2_s, sV_s]; exact hx
      · rw [u2_j e, sV_n (by omega)]; exact e3 hg2
    · simp (disch := first | omega | exact hB _) only [u2_k, u2_j, sV_n, e4, ob_s, ob2_s, chk_t, lt_s', litI, n_add, n_mul, n_sub, inb_n, ix_n, n_le, n_lt, n_eq, n_bit, n_m1_lt, n_m1_eq, n_m1_m, n_ne_m, n_m_ne, n_m_lt0, n_0_le_m, if_true, if_false, eq_self, not_true_eq_false, not_false_eq_true, isB_0, isB_1, Bool.false_eq_true, true_and, and_true, false_and, and_false, and_self, Nat.one_ne_zero, Nat.zero_ne_one, reduceIte]
  · intro p hp
    simp (disch := first | omega | exact hB _) only [u2_k, u2_j, sV_n, hA.ca, ob_s, ob2_s, chk_t, lt_s', litI, n_add, n_mul, n_sub, inb_n, ix_n, n_le, n_lt, n_eq, n_bit, n_m1_lt, n_m1_eq, n_m1_m, n_ne_m, n_m_ne, n_m_lt0, n_0_le_m, if_true, if_false, eq_self, not_true_eq_false, not_false_eq_true, isB_0, isB_1, Bool.false_eq_true, true_and, and_true, false_and, and_false, and_self, Nat.one_ne_zero, Nat.zero_ne_one, reduceIte]
  · exact ⟨w', hw', by rw [u2_s], hbit⟩
  · intro i hi
    refine (hA.mo i hi).keep W hi (fun k hk1 hk2 => ?_) (fun j hj => ?_) (fun f hf => ?_)
    · rw [u2_k (by omega), u2_k (by omega)]
    · unfold inM at hj
      rw [sV_n (by omega)]
    · rw [sV_n (by omega)]
theorem s_hop (hR : RR Mm V) (W : WF c V) (hn : 13 ≤ n) (hA : AR M a V) (x1 x2 : Int32) :
    StpR a c [2, 0] 65536 V M Mm (F_X2_refusalToSeat n a x1 x2) (F_X2_seat n a x1 x2) (F_X10_hops n x1 x2) := by
  have hB := W.b
  have hF := W.F
  have hP := W.P
  unfold StpR F_X2_refusalToSeat F_X10_hops
  rcases (Classical.em (isL x1 (V 0))).symm with h1 | ⟨f, hf, rfl⟩
  · refine .inl ⟨2, by decide, by decide, by decide, ?_, ?_⟩
    · simp (disch := first | omega | exact hB _) only [C_hasFrog_f hA hB h1, ob_s, ob2_s, chk_t, lt_s', litI, n_add, n_mul, n_sub, inb_n, ix_n, n_le, n_lt, n_eq, n_bit, n_m1_lt, n_m1_eq, n_m1_m, n_ne_m, n_m_ne, n_m_lt0, n_0_le_m, if_true, if_false, eq_self, not_true_eq_false, not_false_eq_true, isB_0, isB_1, Bool.false_eq_true, true_and, and_true, false_and, and_false, and_self, Nat.one_ne_zero, Nat.zero_ne_one, reduceIte]
    · simp (disch := first | omega | exact hB _) only [R_isFrog_f hR hB h1, R_fail, ob_s, ob2_s, chk_t, lt_s', litI, n_add, n_mul, n_sub, inb_n, ix_n, n_le, n_lt, n_eq, n_bit, n_m1_lt, n_m1_eq, n_m1_m, n_ne_m, n_m_ne, n_m_lt0, n_0_le_m, if_true, if_false, eq_self, not_true_eq_false, not_false_eq_true, isB_0, isB_1, Bool.false_eq_true, true_and, and_true, false_and, and_false, and_self, Nat.one_ne_zero, Nat.zero_ne_one, reduceIte]
      rfl
  rcases (Classical.em (isL x2 (V 1))).symm with h1 | ⟨p, hp, rfl⟩
  · refine .inl ⟨3, by decide, by decide, by decide, ?_, ?_⟩
    · simp (disch := first | omega | exact hB _) only [C_hasFrog_t hA hB hf, C_hasPad_f hA hB h1, ob_s, ob2_s, chk_t, lt_s', litI, n_add, n_mul, n_sub, inb_n, ix_n, n_le, n_lt, n_eq, n_bit, n_m1_lt, n_m1_eq, n_m1_m, n_ne_m, n_m_ne, n_m_lt0, n_0_le_m, if_true, if_false, eq_self, not_true_eq_false, not_false_eq_true, isB_0, isB_1, Bool.false_eq_true, true_and, and_true, false_and, and_false, and_self, Nat.one_ne_zero, Nat.zero_ne_one, reduceIte]
    · simp (disch := first | omega | exact hB _) only [R_isFrog_t hR hB hf, R_isPad_f hR hB h1, R_fail, ob_s, ob2_s, chk_t, lt_s', litI, n_add, n_mul, n_sub, inb_n, ix_n, n_le, n_lt, n_eq, n_bit, n_m1_lt, n_m1_eq, n_m1_m, n_ne_m, n_m_ne, n_m_lt0, n_0_le_m, if_true, if_false, eq_self, not_true_eq_false, not_false_eq_true, isB_0, isB_1, Bool.false_eq_true, true_and, and_true, false_and, and_false, and_self, Nat.one_ne_zero, Nat.zero_ne_one, reduceIte]
      rfl
  by_cases h3 : V (29 + f) = p + 1
  · refine .inl ⟨11, by decide, by decide, by decide, ?_, ?_⟩
    · simp (disch := first | omega | exact hB _) only [C_hasFrog_t hA hB hf, C_hasPad_t hA hB hp, hA.se hF, h3, Nat.add_sub_cancel, ob_s, ob2_s, chk_t, lt_s', litI, n_add, n_mul, n_sub, inb_n, ix_n, n_le, n_lt, n_eq, n_bit, n_m1_lt, n_m1_eq, n_m1_m, n_ne_m, n_m_ne, n_m_lt0, n_0_le_m, if_true, if_false, eq_self, not_true_eq_false, not_false_eq_true, isB_0, isB_1, Bool.false_eq_true, true_and, and_true, false_and, and_false, and_self, Nat.one_ne_zero, Nat.zero_ne_one, reduceIte]
    · simp (disch := first | omega | exact hB _) only [R_isFrog_t hR hB hf, R_isPad_t hR hB hp, hR, h3, R_fail, ob_s, ob2_s, chk_t, lt_s', litI, n_add, n_mul, n_sub, inb_n, ix_n, n_le, n_lt, n_eq, n_bit, n_m1_lt, n_m1_eq, n_m1_m, n_ne_m, n_m_ne, n_m_lt0, n_0_le_m, if_true, if_false, eq_self, not_true_eq_false, not_false_eq_true, isB_0, isB_1, Bool.false_eq_true, true_and, and_true, false_and, and_false, and_self, Nat.one_ne_zero, Nat.zero_ne_one, reduceIte]
      rfl
  have hpd := W.pd (p := p) (by omega)
  by_cases h4 : onN V p = V (53 + p)
  · refine .inl ⟨12, by decide, by decide, by decide, ?_, ?_⟩
    · simp (disch := first | omega | exact hB _) only [C_hasFrog_t hA hB hf, C_hasPad_t hA hB hp, hA.se hF, hA.ca, h3, C_countOn hA hB hF hn (p := p) (by omega), h4, Nat.le_refl, ob_s, ob2_s, chk_t, lt_s', litI, n_add, n_mul, n_sub, inb_n, ix_n, n_le, n_lt, n_eq, n_bit, n_m1_lt, n_m1_eq, n_m1_m, n_ne_m, n_m_ne, n_m_lt0, n_0_le_m, if_true, if_false, eq_self, not_true_eq_false, not_false_eq_true, isB_0, isB_1, Bool.false_eq_true, true_and, and_true, false_and, and_false, and_self, Nat.one_ne_zero, Nat.zero_ne_one, reduceIte]
    · simp (disch := first | omega | exact hB _) only [R_isFrog_t hR hB hf, R_isPad_t hR hB hp, hR, h3, R_on hR hB hF hn (p := p) (by omega), h4, R_fail, ob_s, ob2_s, chk_t, lt_s', litI, n_add, n_mul, n_sub, inb_n, ix_n, n_le, n_lt, n_eq, n_bit, n_m1_lt, n_m1_eq, n_m1_m, n_ne_m, n_m_ne, n_m_lt0, n_0_le_m, if_true, if_false, eq_self, not_true_eq_false, not_false_eq_true, isB_0, isB_1, Bool.false_eq_true, true_and, and_true, false_and, and_false, and_self, Nat.one_ne_zero, Nat.zero_ne_one, reduceIte]
      rfl
  have h5 : ¬ V (53 + p) ≤ onN V p := by omega
  have hR' : RR (up2 Mm 1 (29 + f) (nI (p + 1))) (sV V (29 + f) (p + 1)) := hR.up
  have key : ∀ p', onN (sV V (29 + f) (p + 1)) p' + (if V (29 + f) = p' + 1 then 1 else 0) = onN V p' + (if p + 1 = p' + 1 then 1 else 0) := by
    intro p'
    have q := sm_upd (g := fun g => if V (29 + g) = p' + 1 then 1 else 0) (g' := fun g => if sV V (29 + f) (p + 1) (29 + g) = p' + 1 then 1 else 0) hf (fun g hg => by rw [sV_n (by omega)])
    simp only [sV_s] at q
    unfold onN
    rw [sV_n (by omega)]
    exact q
  have W' : WF (c + 1) (sV V (29 + f) (p + 1)) := by
    refine seat_WF W hf (by omega) (fun p' hp' => ?_)
    have q := key p'
    have q2 := (W.pd hp').2
    by_cases e : p + 1 = p' + 1
    · have e2 : p' = p := by omega
      subst e2
      rw [if_neg h3, if_pos rfl] at q
      omega
    · rw [if_neg e] at q
      omega
  refine .inr ⟨?_, sV V (29 + f) (p + 1), onN (sV V (29 + f) (p + 1)) p, up2 Mm 1 (29 + f) (nI (p + 1)), ?_, ?_, fun k hk => by rw [u2_k hk], hR', W', ?_⟩
  · simp (disch := first | omega | exact hB _) only [C_hasFrog_t hA hB hf, C_hasPad_t hA hB hp, hA.se hF, hA.ca, h3, C_countOn hA hB hF hn (p := p) (by omega), h5, ob_s, ob2_s, chk_t, lt_s', litI, n_add, n_mul, n_sub, inb_n, ix_n, n_le, n_lt, n_eq, n_bit, n_m1_lt, n_m1_eq, n_m1_m, n_ne_m, n_m_ne, n_m_lt0, n_0_le_m, if_true, if_false, eq_self, not_true_eq_false, not_false_eq_true, isB_0, isB_1, Bool.false_eq_true, true_and, and_true, false_and, and_false, and_self, Nat.one_ne_zero, Nat.zero_ne_one, reduceIte]
  · have := (W'.pd (p := p) (by omega))
    have := W'.b6 (53 + p)
    omega
  · simp (disch := first | omega | exact hB _) only [R_isFrog_t hR hB hf, R_isPad_t hR hB hp, hR, h3, R_on hR hB hF hn (p := p) (by omega), h4, R_on hR' W'.b W'.F hn (p := p) (by omega), ob_s, ob2_s, chk_t, lt_s', litI, n_add, n_mul, n_sub, inb_n, ix_n, n_le, n_lt, n_eq, n_bit, n_m1_lt, n_m1_eq, n_m1_m, n_ne_m, n_m_ne, n_m_lt0, n_0_le_m, if_true, if_false, eq_self, not_true_eq_false, not_false_eq_true, isB_0, isB_1, Bool.false_eq_true, true_and, and_true, false_and, and_false, and_self, Nat.one_ne_zero, Nat.zero_ne_one, reduceIte]
  · intro M0 hA
    obtain ⟨w, h1, h2, h6⟩ := hA.ma
    have h7 : (2 : Nat) ^ f < 4096 := Nat.pow_lt_pow_right (a := 2) (n := 12) (by decide) (by omega)
    have hA' : AR (up2 (up2 M0 (a + 3) f (nI p)) a 5 (nI (w ||| 2 ^ f))) a (sV V (29 + f) (p + 1)) := by
      refine seat_AR W hA hf (by rw [n_sub (by omega)]; rfl) (or_lt12 h1 (by omega)) (fun g hg => ?_)
      rw [tb_or]
      by_cases e : g = f
      · subst e; rw [sV_s]; simp
      · rw [sV_n (by omega), decide_eq_false e, Bool.or_false]; exact h6 g hg
    refine ⟨_, ?_, hA', fun k hk => by rw [u2_k (by omega), u2_k (by omega)]⟩
    unfold F_X2_seat
    simp (disch := first | omega | exact hB _) only [u2_k, h2, n_shl, n_or, ob_s, ob2_s, chk_t, lt_s', litI, n_add, n_mul, n_sub, inb_n, ix_n, n_le, n_lt, n_eq, n_bit, n_m1_lt, n_m1_eq, n_m1_m, n_ne_m, n_m_ne, n_m_lt0, n_0_le_m, if_true, if_false, eq_self, not_true_eq_false, not_false_eq_true, isB_0, isB_1, Bool.false_eq_true, true_and, and_true, false_and, and_false, and_self, Nat.one_ne_zero, Nat.zero_ne_one, reduceIte]
    rw [C_countOn hA' W'.b W'.F hn (p := p) (by omega)]
    rfl
theorem s_dive (hR : RR Mm V) (W : WF c V) (hn : 13 ≤ n) (hA : AR M a V) (x1 : Int32) :
    StpR a c [2, 0] 65536 V M Mm (F_X2_refusalToUnseat n a x1) (F_X2_unseat n a x1) (F_X10_dives n x1) := by
  have hB := W.b
  have hF := W.F
  have hP := W.P
  unfold StpR F_X2_refusalToUnseat F_X10_dives
  rcases (Classical.em (isL x1 (V 0))).symm with h1 | ⟨f, hf, rfl⟩
  · refine .inl ⟨2, by decide, by decide, by decide, ?_, ?_⟩
    · simp (disch := first | omega | exact hB _) only [C_hasFrog_f hA hB h1, ob_s, ob2_s, chk_t, lt_s', litI, n_add, n_mul, n_sub, inb_n, ix_n, n_le, n_lt, n_eq, n_bit, n_m1_lt, n_m1_eq, n_m1_m, n_ne_m, n_m_ne, n_m_lt0, n_0_le_m, if_true, if_false, eq_self, not_true_eq_false, not_false_eq_true, isB_0, isB_1, Bool.false_eq_true, true_and, and_true, false_and, and_false, and_self, Nat.one_ne_zero, Nat.zero_ne_one, reduceIte]
    · simp (disch := first | omega | exact hB _) only [R_isFrog_f hR hB h1, R_fail, ob_s, ob2_s, chk_t, lt_s', litI, n_add, n_mul, n_sub, inb_n, ix_n, n_le, n_lt, n_eq, n_bit, n_m1_lt, n_m1_eq, n_m1_m, n_ne_m, n_m_ne, n_m_lt0, n_0_le_m, if_true, if_false, eq_self, not_true_eq_false, not_false_eq_true, isB_0, isB_1, Bool.false_eq_true, true_and, and_true, false_and, and_false, and_self, Nat.one_ne_zero, Nat.zero_ne_one, reduceIte]
      rfl
  by_cases h3 : V (29 + f) = 0
  · refine .inl ⟨13, by decide, by decide, by decide, ?_, ?_⟩
    · simp (disch := first | omega | exact hB _) only [C_hasFrog_t hA hB hf, C_sits hA hB hF hf, h3, ob_s, ob2_s, chk_t, lt_s', litI, n_add, n_mul, n_sub, inb_n, ix_n, n_le, n_lt, n_eq, n_bit, n_m1_lt, n_m1_eq, n_m1_m, n_ne_m, n_m_ne, n_m_lt0, n_0_le_m, if_true, if_false, eq_self, not_true_eq_false, not_false_eq_true, isB_0, isB_1, Bool.false_eq_true, true_and, and_true, false_and, and_false, and_self, Nat.one_ne_zero, Nat.zero_ne_one, reduceIte]
    · simp (disch := first | omega | exact hB _) only [R_isFrog_t hR hB hf, R_isOn hR hB (f := f) (by omega), h3, R_fail, ob_s, ob2_s, chk_t, lt_s', litI, n_add, n_mul, n_sub, inb_n, ix_n, n_le, n_lt, n_eq, n_bit, n_m1_lt, n_m1_eq, n_m1_m, n_ne_m, n_m_ne, n_m_lt0, n_0_le_m, if_true, if_false, eq_self, not_true_eq_false, not_false_eq_true, isB_0, isB_1, Bool.false_eq_true, true_and, and_true, false_and, and_false, and_self, Nat.one_ne_zero, Nat.zero_ne_one, reduceIte]
      rfl
  have W' : WF (c + 1) (sV V (29 + f) 0) := by
    refine seat_WF W hf (by omega) (fun p' hp' => ?_)
    refine Nat.le_trans (onN_le (sV_n (by omega)) (fun g hg => ?_)) (W.pd hp').2
    by_cases e : g = f
    · subst e; rw [sV_s]; intro q; omega
    · rw [sV_n (by omega)]; exact id
  refine .inr ⟨?_, sV V (29 + f) 0, V (29 + f) - 1, up2 Mm 1 (29 + f) (nI 0), by have := W.b6 (29 + f); omega, ?_, fun k hk => by rw [u2_k hk], hR.up, W', ?_⟩
  · simp (disch := first | omega | exact hB _) only [C_hasFrog_t hA hB hf, C_sits hA hB hF hf, h3, ob_s, ob2_s, chk_t, lt_s', litI, n_add, n_mul, n_sub, inb_n, ix_n, n_le, n_lt, n_eq, n_bit, n_m1_lt, n_m1_eq, n_m1_m, n_ne_m, n_m_ne, n_m_lt0, n_0_le_m, if_true, if_false, eq_self, not_true_eq_false, not_false_eq_true, isB_0, isB_1, Bool.false_eq_true, true_and, and_true, false_and, and_false, and_self, Nat.one_ne_zero, Nat.zero_ne_one, reduceIte]
  · simp (disch := first | omega | exact hB _) only [R_isFrog_t hR hB hf, R_isOn hR hB (f := f) (by omega), h3, hR, n10, ob_s, ob2_s, chk_t, lt_s', litI, n_add, n_mul, n_sub, inb_n, ix_n, n_le, n_lt, n_eq, n_bit, n_m1_lt, n_m1_eq, n_m1_m, n_ne_m, n_m_ne, n_m_lt0, n_0_le_m, if_true, if_false, eq_self, not_true_eq_false, not_false_eq_true, isB_0, isB_1, Bool.false_eq_true, true_and, and_true, false_and, and_false, and_self, Nat.one_ne_zero, Nat.zero_ne_one, reduceIte]
  · intro M0 hA
    obtain ⟨w, h1, h2, h6⟩ := hA.ma
    have h7 : (2 : Nat) ^ f < 4096 := Nat.pow_lt_pow_right (a := 2) (n := 12) (by decide) (by omega)
    have h8 : w &&& (2 ^ f ^^^ 4294967295) ≤ w := Nat.and_le_left
    have hA' : AR (up2 (up2 M0 (a + 3) f (-nI 1)) a 5 (nI (w &&& (2 ^ f ^^^ 4294967295)))) a (sV V (29 + f) 0) := by
      refine seat_AR W hA hf rfl (by omega) (fun g hg => ?_)
      rw [tb_andn (by omega)]
      by_cases e : g = f
      · subst e; rw [sV_s]; simp
      · rw [sV_n (by omega), decide_eq_true e, Bool.and_true]; exact h6 g hg
    refine ⟨_, ?_, hA', fun k hk => by rw [u2_k (by omega), u2_k (by omega)]⟩
    unfold F_X2_unseat
    simp (disch := first | omega | exact hB _) only [u2_k, h2, n_shl, n_andn, hA.se hF, ob_s, ob2_s, chk_t, lt_s', litI, n_add, n_mul, n_sub, inb_n, ix_n, n_le, n_lt, n_eq, n_bit, n_m1_lt, n_m1_eq, n_m1_m, n_ne_m, n_m_ne, n_m_lt0, n_0_le_m, if_true, if_false, eq_self, not_true_eq_false, not_false_eq_true, isB_0, isB_1, Bool.false_eq_true, true_and, and_true, false_and, and_false, and_self, Nat.one_ne_zero, Nat.zero_ne_one, reduceIte]
theorem s_addMotion (hR : RR Mm V) (W : WF c V) (hc : c < 65000) (hA : AR M a V) (x1 : Int32) :
    StpR a c [1, 0] 65536 V M Mm (F_X2_refusalToPropose n a x1) (F_X2_propose n a x1) (F_X10_moves n x1) := by
  have hB := W.b
  have hF := W.F
  have hP := W.M
  unfold StpR F_X2_refusalToPropose F_X10_moves
  rcases i_or x1 with h1 | ⟨p0, hp, rfl⟩
  · have h2 := neg_lt (v := 1) h1 (by decide)
    refine .inl ⟨7, by decide, by decide, by decide, ?_, ?_⟩
    · simp (disch := first | omega | exact hB _) only [h2, ob_s, ob2_s, chk_t, lt_s', litI, n_add, n_mul, n_sub, inb_n, ix_n, n_le, n_lt, n_eq, n_bit, n_m1_lt, n_m1_eq, n_m1_m, n_ne_m, n_m_ne, n_m_lt0, n_0_le_m, if_true, if_false, eq_self, not_true_eq_false, not_false_eq_true, isB_0, isB_1, Bool.false_eq_true, true_and, and_true, false_and, and_false, and_self, Nat.one_ne_zero, Nat.zero_ne_one, reduceIte]
    · simp (disch := first | omega | exact hB _) only [R_isIn_neg h1, R_fail, ob_s, ob2_s, chk_t, lt_s', litI, n_add, n_mul, n_sub, inb_n, ix_n, n_le, n_lt, n_eq, n_bit, n_m1_lt, n_m1_eq, n_m1_m, n_ne_m, n_m_ne, n_m_lt0, n_0_le_m, if_true, if_false, eq_self, not_true_eq_false, not_false_eq_true, isB_0, isB_1, Bool.false_eq_true, true_and, and_true, false_and, and_false, and_self, Nat.one_ne_zero, Nat.zero_ne_one, reduceIte]
      rfl
  rcases (Decidable.em (1 ≤ p0 ∧ p0 ≤ 15)).symm with hw9 | hw9
  · refine .inl ⟨7, by decide, by decide, by decide, ?_, ?_⟩
    · by_cases h : p0 < 1
      · simp (disch := first | omega | exact hB _) only [h, ob_s, ob2_s, chk_t, lt_s', litI, n_add, n_mul, n_sub, inb_n, ix_n, n_le, n_lt, n_eq, n_bit, n_m1_lt, n_m1_eq, n_m1_m, n_ne_m, n_m_ne, n_m_lt0, n_0_le_m, if_true, if_false, eq_self, not_true_eq_false, not_false_eq_true, isB_0, isB_1, Bool.false_eq_true, true_and, and_true, false_and, and_false, and_self, Nat.one_ne_zero, Nat.zero_ne_one, reduceIte]
      · have h2 : ¬ p0 ≤ 15 := by omega
        simp (disch := first | omega | exact hB _) only [h, h2, ob_s, ob2_s, chk_t, lt_s', litI, n_add, n_mul, n_sub, inb_n, ix_n, n_le, n_lt, n_eq, n_bit, n_m1_lt, n_m1_eq, n_m1_m, n_ne_m, n_m_ne, n_m_lt0, n_0_le_m, if_true, if_false, eq_self, not_true_eq_false, not_false_eq_true, isB_0, isB_1, Bool.false_eq_true, true_and, and_true, false_and, and_false, and_self, Nat.one_ne_zero, Nat.zero_ne_one, reduceIte]
    · simp (disch := first | omega | exact hB _) only [R_isIn, hw9, R_fail, ob_s, ob2_s, chk_t, lt_s', litI, n_add, n_mul, n_sub, inb_n, ix_n, n_le, n_lt, n_eq, n_bit, n_m1_lt, n_m1_eq, n_m1_m, n_ne_m, n_m_ne, n_m_lt0, n_0_le_m, if_true, if_false, eq_self, not_true_eq_false, not_false_eq_true, isB_0, isB_1, Bool.false_eq_true, true_and, and_true, false_and, and_false, and_self, Nat.one_ne_zero, Nat.zero_ne_one, reduceIte]
      rfl
  have hw1 : ¬ p0 < 1 := by omega
  by_cases hF2 : V 2 = 6
  · refine .inl ⟨10, by decide, by decide, by decide, ?_, ?_⟩
    · simp (disch := first | omega | exact hB _) only [hw1, hw9.2, hA.Mo, hF2, Nat.le_refl, ob_s, ob2_s, chk_t, lt_s', litI, n_add, n_mul, n_sub, inb_n, ix_n, n_le, n_lt, n_eq, n_bit, n_m1_lt, n_m1_eq, n_m1_m, n_ne_m, n_m_ne, n_m_lt0, n_0_le_m, if_true, if_false, eq_self, not_true_eq_false, not_false_eq_true, isB_0, isB_1, Bool.false_eq_true, true_and, and_true, false_and, and_false, and_self, Nat.one_ne_zero, Nat.zero_ne_one, reduceIte]
    · simp (disch := first | omega | exact hB _) only [R_isIn, hw9, hR, hF2, R_fail, ob_s, ob2_s, chk_t, lt_s', litI, n_add, n_mul, n_sub, inb_n, ix_n, n_le, n_lt, n_eq, n_bit, n_m1_lt, n_m1_eq, n_m1_m, n_ne_m, n_m_ne, n_m_lt0, n_0_le_m, if_true, if_false, eq_self, not_true_eq_false, not_false_eq_true, isB_0, isB_1, Bool.false_eq_true, true_and, and_true, false_and, and_false, and_self, Nat.one_ne_zero, Nat.zero_ne_one, reduceIte]
      rfl
  have hF3 : ¬ 6 ≤ V 2 := by omega
  have eof : F_X10_of n (nI (V 2)) (nI 0) Mm = some (nI (59 + 10 * V 2)) := R_of _ 0 Mm
  refine .inr ⟨?_, sV (sV V (59 + 10 * V 2) p0) 2 (V 2 + 1), V 2, up2 (up2 Mm 1 (59 + 10 * V 2) (nI p0)) 1 2 (nI (V 2 + 1)), by omega, ?_, fun k hk => by rw [u2_k hk, u2_k hk], hR.up.up, ?_, ?_⟩
  · simp (disch := first | omega | exact hB _) only [hw1, hw9.2, hA.Mo, hF3, ob_s, ob2_s, chk_t, lt_s', litI, n_add, n_mul, n_sub, inb_n, ix_n, n_le, n_lt, n_eq, n_bit, n_m1_lt, n_m1_eq, n_m1_m, n_ne_m, n_m_ne, n_m_lt0, n_0_le_m, if_true, if_false, eq_self, not_true_eq_false, not_false_eq_true, isB_0, isB_1, Bool.false_eq_true, true_and, and_true, false_and, and_false, and_self, Nat.one_ne_zero, Nat.zero_ne_one, reduceIte]
  · simp (disch := first | omega | exact hB _) only [R_isIn, hw9, hR, hF2, u2_j, u2_s, eof, ob_s, ob2_s, chk_t, lt_s', litI, n_add, n_mul, n_sub, inb_n, ix_n, n_le, n_lt, n_eq, n_bit, n_m1_lt, n_m1_eq, n_m1_m, n_ne_m, n_m_ne, n_m_lt0, n_0_le_m, if_true, if_false, eq_self, not_true_eq_false, not_false_eq_true, isB_0, isB_1, Bool.false_eq_true, true_and, and_true, false_and, and_false, and_self, Nat.one_ne_zero, Nat.zero_ne_one, reduceIte]
  · refine ⟨sV_lt (sV_lt W.b6 (by omega)) (by omega), by rw [sV_n (by omega), sV_n (by omega)]; exact hF, by rw [sV_n (by omega), sV_n (by omega)]; exact W.P, by rw [sV_s]; omega, by rw [sV_n (by omega), sV_n (by omega)]; have := W.2.2.2.2.1; omega, by rw [sV_n (by omega), sV_n (by omega)]; have := W.2.2.2.2.2.1; omega, ?_, ?_, ?_⟩
    · intro f hf
      obtain ⟨q1, q2, q3, q4, q5⟩ := W.fr hf
      simp only [sV]
      refine ⟨?_, ?_, ?_, ?_, ?_⟩ <;> (repeat' split) <;> omega
    · intro p hp
      have q := W.pd hp
      rw [sV_n (by omega), sV_n (by omega)]
      exact ⟨q.1, Nat.le_trans (onN_le (by rw [sV_n (by omega), sV_n (by omega)]) (fun f hf => by rw [sV_n (by omega), sV_n (by omega)]; exact id)) q.2⟩
    · intro i hi
      have e : WM (c + 1) (sV V 2 (V 2 + 1)) i := (W.mo hi).keep (by omega) (by rw [sV_n (by omega)]; exact Nat.le_refl _) (fun j hj => by unfold inM at hj; rw [sV_n (by omega)])
      by_cases e2 : i = V 2
      · subst e2
        obtain ⟨a0, a1, a2, a3, a4, a5, a6, a7, a8, a9, a10, a11⟩ := W.mo hi
        unfold WM
        simp (disch := first | omega | exact hB _) only [sV_n, sV_s, ob_s, ob2_s, chk_t, lt_s', litI, n_add, n_mul, n_sub, inb_n, ix_n, n_le, n_lt, n_eq, n_bit, n_m1_lt, n_m1_eq, n_m1_m, n_ne_m, n_m_ne, n_m_lt0, n_0_le_m, if_true, if_false, eq_self, not_true_eq_false, not_false_eq_true, isB_0, isB_1, Bool.false_eq_true, true_and, and_true, false_and, and_false, and_self, Nat.one_ne_zero, Nat.zero_ne_one, reduceIte]
        refine ⟨by omega, a1, a2, a3, a4, a5, by omega, a7, fun k hk => ?_, fun k k' hk hk' => ?_, fun k hk => ?_, fun k k' hk hk' => ?_⟩
        · exact a8 k hk
        · exact a9 k k' hk hk'
        · exact a10 k hk
        · exact a11 k k' hk hk'
      · refine (W.mo hi).keep (by omega) (by rw [sV_n (by omega), sV_n (by omega)]; exact Nat.le_refl _) (fun j hj => ?_)
        unfold inM at hj
        rw [sV_n (by omega), sV_n (by omega)]
  · intro M0 hA
    refine ⟨up2 (up2 M0 (a + 6 + 1 + 4 * V 2) 0 (nI p0)) a 8 (nI (V 2 + 1)), ?_, ?_, fun k hk => by rw [u2_k (by omega), u2_k (by omega)]⟩
    · unfold F_X2_propose
      simp (disch := first | omega | exact hB _) only [hA.Mo, u2_k, u2_j, ob_s, ob2_s, chk_t, lt_s', litI, n_add, n_mul, n_sub, inb_n, ix_n, n_le, n_lt, n_eq, n_bit, n_m1_lt, n_m1_eq, n_m1_m, n_ne_m, n_m_ne, n_m_lt0, n_0_le_m, if_true, if_false, eq_self, not_true_eq_false, not_false_eq_true, isB_0, isB_1, Bool.false_eq_true, true_and, and_true, false_and, and_false, and_self, Nat.one_ne_zero, Nat.zero_ne_one, reduceIte]
    · refine ⟨?_, ?_, ?_, ?_, ?_, ?_, ?_, ?_, ?_⟩
      · simp (disch := first | omega | exact hB _) only [u2_k, u2_j, sV_n, hA.F, ob_s, ob2_s, chk_t, lt_s', litI, n_add, n_mul, n_sub, inb_n, ix_n, n_le, n_lt, n_eq, n_bit, n_m1_lt, n_m1_eq, n_m1_m, n_ne_m, n_m_ne, n_m_lt0, n_0_le_m, if_true, if_false, eq_self, not_true_eq_false, not_false_eq_true, isB_0, isB_1, Bool.false_eq_true, true_and, and_true, false_and, and_false, and_self, Nat.one_ne_zero, Nat.zero_ne_one, reduceIte]
      · simp (disch := first | omega | exact hB _) only [u2_k, u2_j, sV_n, hA.P, ob_s, ob2_s, chk_t, lt_s', litI, n_add, n_mul, n_sub, inb_n, ix_n, n_le, n_lt, n_eq, n_bit, n_m1_lt, n_m1_eq, n_m1_m, n_ne_m, n_m_ne, n_m_lt0, n_0_le_m, if_true, if_false, eq_self, not_true_eq_false, not_false_eq_true, isB_0, isB_1, Bool.false_eq_true, true_and, and_true, false_and, and_false, and_self, Nat.one_ne_zero, Nat.zero_ne_one, reduceIte]
      · rw [u2_s, sV_s]
      · simp (disch := first | omega | exact hB _) only [u2_k, u2_j, sV_n, hA.sp, ob_s, ob2_s, chk_t, lt_s', litI, n_add, n_mul, n_sub, inb_n, ix_n, n_le, n_lt, n_eq, n_bit, n_m1_lt, n_m1_eq, n_m1_m, n_ne_m, n_m_ne, n_m_lt0, n_0_le_m, if_true, if_false, eq_self, not_true_eq_false, not_false_eq_true, isB_0, isB_1, Bool.false_eq_true, true_and, and_true, false_and, and_false, and_self, Nat.one_ne_zero, Nat.zero_ne_one, reduceIte]
      · simp (disch := first | omega | exact hB _) only [u2_k, u2_j, sV_n, hA.mi, ob_s, ob2_s, chk_t, lt_s', litI, n_add, n_mul, n_sub, inb_n, ix_n, n_le, n_lt, n_eq, n_bit, n_m1_lt, n_m1_eq, n_m1_m, n_ne_m, n_m_ne, n_m_lt0, n_0_le_m, if_true, if_false, eq_self, not_true_eq_false, not_false_eq_true, isB_0, isB_1, Bool.false_eq_true, true_and, and_true, false_and, and_false, and_self, Nat.one_ne_zero, Nat.zero_ne_one, reduceIte]
      · intro f hf
        simp (disch := first | omega | exact hB _) only [u2_k, sV_n, ob_s, ob2_s, chk_t, lt_s', litI, n_add, n_mul, n_sub, inb_n, ix_n, n_le, n_lt, n_eq, n_bit, n_m1_lt, n_m1_eq, n_m1_m, n_ne_m, n_m_ne, n_m_lt0, n_0_le_m, if_true, if_false, eq_self, not_true_eq_false, not_false_eq_true, isB_0, isB_1, Bool.false_eq_true, true_and, and_true, false_and, and_false, and_self, Nat.one_ne_zero, Nat.zero_ne_one, reduceIte]
        exact hA.fr f hf
      · intro p hp
        simp (disch := first | omega | exact hB _) only [u2_k, u2_j, sV_n, hA.ca, ob_s, ob2_s, chk_t, lt_s', litI, n_add, n_mul, n_sub, inb_n, ix_n, n_le, n_lt, n_eq, n_bit, n_m1_lt, n_m1_eq, n_m1_m, n_ne_m, n_m_ne, n_m_lt0, n_0_le_m, if_true, if_false, eq_self, not_true_eq_false, not_false_eq_true, isB_0, isB_1, Bool.false_eq_true, true_and, and_true, false_and, and_false, and_self, Nat.one_ne_zero, Nat.zero_ne_one, reduceIte]
      · obtain ⟨w, h1, h2, h3⟩ := hA.ma
        refine ⟨w, h1, ?_, fun f hf => ?_⟩
        · simp (disch := first | omega | exact hB _) only [u2_k, u2_j, sV_n, h2, ob_s, ob2_s, chk_t, lt_s', litI, n_add, n_mul, n_sub, inb_n, ix_n, n_le, n_lt, n_eq, n_bit, n_m1_lt, n_m1_eq, n_m1_m, n_ne_m, n_m_ne, n_m_lt0, n_0_le_m, if_true, if_false, eq_self, not_true_eq_false, not_false_eq_true, isB_0, isB_1, Bool.false_eq_true, true_and, and_true, false_and, and_false, and_self, Nat.one_ne_zero, Nat.zero_ne_one, reduceIte]
        · rw [h3 f hf, sV_n (by omega), sV_n (by omega)]
      · intro i hi
        by_cases e2 : i = V 2
        · subst e2
          obtain ⟨a0, a2, a3, a4, a7, a9, a10, a11, b1, b2, b3⟩ := hA.mo (V 2) hi
          have hl := W.li hi
          have hcl := W.ci hi
          unfold MR
          simp (disch := first | omega | exact hB _) only [u2_k, u2_j, u2_s, sV_n, sV_s, ob_s, ob2_s, chk_t, lt_s', litI, n_add, n_mul, n_sub, inb_n, ix_n, n_le, n_lt, n_eq, n_bit, n_m1_lt, n_m1_eq, n_m1_m, n_ne_m, n_m_ne, n_m_lt0, n_0_le_m, if_true, if_false, eq_self, not_true_eq_false, not_false_eq_true, isB_0, isB_1, Bool.false_eq_true, true_and, and_true, false_and, and_false, and_self, Nat.one_ne_zero, Nat.zero_ne_one, reduceIte]
          refine ⟨a2, a3, a4, a7, a9, a10, a11, b1, fun k hk => ⟨(b2 k hk).1, ?_⟩, ?_⟩
          · have q := (W.cf hi hk).1
            unfold stg
            simp (disch := first | omega | exact hB _) only [sV_n, ob_s, ob2_s, chk_t, lt_s', litI, n_add, n_mul, n_sub, inb_n, ix_n, n_le, n_lt, n_eq, n_bit, n_m1_lt, n_m1_eq, n_m1_m, n_ne_m, n_m_ne, n_m_lt0, n_0_le_m, if_true, if_false, eq_self, not_true_eq_false, not_false_eq_true, isB_0, isB_1, Bool.false_eq_true, true_and, and_true, false_and, and_false, and_self, Nat.one_ne_zero, Nat.zero_ne_one, reduceIte]
            exact (b2 k hk).2
          · exact b3
        · refine (hA.mo i hi).keep W hi (fun k hk1 hk2 => ?_) (fun j hj => ?_) (fun f hf => ?_)
          · rw [u2_k (by omega), u2_k (by omega)]
          · unfold inM at hj
            rw [sV_n (by omega), sV_n (by omega)]
          · rw [sV_n (by omega), sV_n (by omega)]
end STP
