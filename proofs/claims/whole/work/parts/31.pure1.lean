/-! ===== PURE: the state in the reference's places; what is right of it ===== -/
abbrev RR (Mm : Mem) (V : Nat → Nat) : Prop := ∀ k, k < 407 → Mm 1 k = nI (V k)
def onN (V : Nat → Nat) (p : Nat) : Nat := sm (fun f => if V (29 + f) = p + 1 then 1 else 0) (V 0)
def WM (c : Nat) (V : Nat → Nat) (i : Nat) : Prop :=
  V (59 + 10 * i) ≤ 15 ∧ V (59 + 10 * i + 1) ≤ 1 ∧ V (59 + 10 * i + 2) ≤ 1 ∧ V (59 + 10 * i + 3) ≤ 1 ∧ V (59 + 10 * i + 4) < 4096 ∧ V (59 + 10 * i + 5) ≤ 12 ∧ V (59 + 10 * i + 6) ≤ c ∧ V (59 + 10 * i + 7) ≤ 12 ∧
    (∀ k, k < V (59 + 10 * i + 5) → V (119 + 12 * i + k) < V 0) ∧ (∀ k k', k < k' → k' < V (59 + 10 * i + 5) → V (119 + 12 * i + k) ≠ V (119 + 12 * i + k')) ∧
    (∀ k, k < V (59 + 10 * i + 7) → V (191 + 36 * i + 3 * k) < V 0 ∧ V (191 + 36 * i + 3 * k + 1) ≤ 9 ∧ V (191 + 36 * i + 3 * k + 2) ≤ 1 ∧ 1 ≤ V (191 + 36 * i + 3 * k + 1)) ∧ (∀ k k', k < k' → k' < V (59 + 10 * i + 7) → V (191 + 36 * i + 3 * k) ≠ V (191 + 36 * i + 3 * k'))
def WF (c : Nat) (V : Nat → Nat) : Prop :=
  (∀ k, V k < 65536) ∧ V 0 ≤ 12 ∧ V 1 ≤ 6 ∧ V 2 ≤ 6 ∧ V 3 ≤ c ∧ V 4 ≤ c ∧
  (∀ f, f < 12 → V (5 + f) ≤ 3 ∧ V (17 + f) ≤ 9 ∧ V (29 + f) ≤ V 1 ∧ (V 0 ≤ f → V (29 + f) = 0) ∧ (V (41 + f) ≤ c ∧ (f < V 0 → 1 ≤ V (17 + f)))) ∧
  (∀ p, p < 6 → V (53 + p) ≤ 4 ∧ onN V p ≤ V (53 + p)) ∧
  ∀ i, i < 6 → WM c V i
section WFP
variable {c : Nat} {V : Nat → Nat}
theorem WF.b (h : WF c V) (k : Nat) : V k < 2147483648 := Nat.lt_trans (h.1 k) (by decide)
theorem WF.b6 (h : WF c V) (k : Nat) : V k < 65536 := h.1 k
theorem WF.F (h : WF c V) : V 0 ≤ 12 := h.2.1
theorem WF.P (h : WF c V) : V 1 ≤ 6 := h.2.2.1
theorem WF.M (h : WF c V) : V 2 ≤ 6 := h.2.2.2.1
theorem WF.fr (h : WF c V) {f : Nat} (hf : f < 12) : V (5 + f) ≤ 3 ∧ V (17 + f) ≤ 9 ∧ V (29 + f) ≤ V 1 ∧ (V 0 ≤ f → V (29 + f) = 0) ∧ (V (41 + f) ≤ c ∧ (f < V 0 → 1 ≤ V (17 + f))) := h.2.2.2.2.2.2.1 f hf
theorem WF.pd (h : WF c V) {p : Nat} (hp : p < 6) : V (53 + p) ≤ 4 ∧ onN V p ≤ V (53 + p) := h.2.2.2.2.2.2.2.1 p hp
theorem WF.mo (h : WF c V) {i : Nat} (hi : i < 6) : WM c V i := h.2.2.2.2.2.2.2.2 i hi
theorem WF.li (h : WF c V) {i : Nat} (hi : i < 6) : V (59 + 10 * i + 5) ≤ 12 := (h.mo hi).2.2.2.2.2.1
theorem WF.lf (h : WF c V) {i : Nat} (hi : i < 6) {k : Nat} (hk : k < V (59 + 10 * i + 5)) : V (119 + 12 * i + k) < V 0 := (h.mo hi).2.2.2.2.2.2.2.2.1 k hk
theorem WF.ld (h : WF c V) {i : Nat} (hi : i < 6) {k k' : Nat} (hk : k < k') (hk' : k' < V (59 + 10 * i + 5)) : V (119 + 12 * i + k) ≠ V (119 + 12 * i + k') := (h.mo hi).2.2.2.2.2.2.2.2.2.1 k k' hk hk'
theorem WF.ci (h : WF c V) {i : Nat} (hi : i < 6) : V (59 + 10 * i + 7) ≤ 12 := (h.mo hi).2.2.2.2.2.2.2.1
theorem WF.cf (h : WF c V) {i : Nat} (hi : i < 6) {k : Nat} (hk : k < V (59 + 10 * i + 7)) : V (191 + 36 * i + 3 * k) < V 0 ∧ V (191 + 36 * i + 3 * k + 1) ≤ 9 ∧ V (191 + 36 * i + 3 * k + 2) ≤ 1 ∧ 1 ≤ V (191 + 36 * i + 3 * k + 1) := (h.mo hi).2.2.2.2.2.2.2.2.2.2.1 k hk
theorem WF.cd (h : WF c V) {i : Nat} (hi : i < 6) {k k' : Nat} (hk : k < k') (hk' : k' < V (59 + 10 * i + 7)) : V (191 + 36 * i + 3 * k) ≠ V (191 + 36 * i + 3 * k') := (h.mo hi).2.2.2.2.2.2.2.2.2.2.2 k k' hk hk'
end WFP
/-! what the calls ask, over numbers -/
def padW (V : Nat → Nat) (p : Nat) : Nat := sm (fun f => if V (29 + f) = p + 1 then V (17 + f) else 0) (V 0)
def sitN (V : Nat → Nat) : Nat := sm (fun f => if V (29 + f) = 0 then 0 else 1) (V 0)
def sitW (V : Nat → Nat) : Nat := sm (fun f => if V (29 + f) = 0 then 0 else V (17 + f)) (V 0)
def enT (V : Nat → Nat) (i f : Nat) : Bool := (V (59 + 10 * i)).testBit (V (5 + f))
def backW (V : Nat → Nat) (i : Nat) : Nat := sm (fun f => if (V (59 + 10 * i + 4)).testBit f = true then V (17 + f) else 0) (V 0)
def entW (V : Nat → Nat) (i : Nat) : Nat := sm (fun f => if enT V i f = true then V (17 + f) else 0) (V 0)
def plc (V : Nat → Nat) (i f : Nat) : Nat := fst (fun k => decide (V (119 + 12 * i + k) = f)) (V (59 + 10 * i + 5))
def ahN (V : Nat → Nat) (i k : Nat) : Nat := sm (fun x => if V (41 + V (119 + 12 * i + x)) < V (41 + V (119 + 12 * i + k)) then 1 else if V (41 + V (119 + 12 * i + x)) = V (41 + V (119 + 12 * i + k)) then (if k ≤ x then 0 else 1) else 0) (V (59 + 10 * i + 5))
def rkd (V : Nat → Nat) (i r : Nat) : Nat := fst (fun k => decide (ahN V i k = r)) (V (59 + 10 * i + 5))
def stg (V : Nat → Nat) (i k : Nat) : Nat := V (191 + 36 * i + 3 * k + 1) * V (17 + V (191 + 36 * i + 3 * k))
def sumS (V : Nat → Nat) (i s : Nat) : Nat := sm (fun k => if V (191 + 36 * i + 3 * k + 2) = s then stg V i k else 0) (V (59 + 10 * i + 7))
def crk (V : Nat → Nat) (i f : Nat) : Nat := fst (fun k => decide (V (191 + 36 * i + 3 * k) = f)) (V (59 + 10 * i + 7))
section REF
variable {n c : Nat} {Mm : Mem} {V : Nat → Nat}
theorem R_isIn {x a b : Nat} {M : Mem} (hx : x < 2147483648) (ha : a < 2147483648) (hb : b < 2147483648) : F_X10_isIn n (nI x) (nI a) (nI b) M = some (if a ≤ x ∧ x ≤ b then nI 1 else nI 0) := by
  have hB : ∀ k : Nat, 0 ≤ k := fun _ => Nat.zero_le _
  unfold F_X10_isIn
  simp (disch := first | omega | exact hB _) only [ob_s, ob2_s, chk_t, lt_s', litI, n_add, n_mul, n_sub, inb_n, ix_n, n_le, n_lt, n_eq, n_bit, n_m1_lt, n_m1_eq, n_m1_m, n_ne_m, n_m_ne, n_m_lt0, n_0_le_m, if_true, if_false, eq_self, not_true_eq_false, not_false_eq_true, isB_0, isB_1, Bool.false_eq_true, true_and, and_true, false_and, and_false, and_self, Nat.one_ne_zero, Nat.zero_ne_one, reduceIte]
  by_cases h1 : x < a
  · rw [if_pos h1, if_neg (by omega)]
  · rw [if_neg h1]
    by_cases h2 : b < x
    · rw [if_pos h2, if_neg (by omega)]
    · rw [if_neg h2, if_pos (by omega)]
theorem R_isIn_neg {x : Int32} {a b : Nat} {M : Mem} (hx : x < nI 0) (ha : a < 2147483648) : F_X10_isIn n x (nI a) (nI b) M = some (nI 0) := by
  unfold F_X10_isIn
  simp only [neg_lt hx ha, if_true]
  rfl
/-- the int is a number below v -/
def isL (x : Int32) (v : Nat) : Prop := ∃ f, f < v ∧ x = nI f
theorem isL_t {f v : Nat} (h : f < v) : isL (nI f) v := ⟨f, h, rfl⟩
theorem not_isL {x : Int32} {v : Nat} (h : ¬ isL x v) : x < nI 0 ∨ ∃ f, f < 2147483648 ∧ v ≤ f ∧ x = nI f := by
  rcases i_or x with q | ⟨f, hf, rfl⟩
  · exact .inl q
  · exact .inr ⟨f, hf, Nat.le_of_not_lt (fun q => h ⟨f, q, rfl⟩), rfl⟩
theorem R_isFrog_t (hR : RR Mm V) (hB : ∀ k, V k < 2147483648) {f : Nat} (hf : f < V 0) : F_X10_isFrog n (nI f) Mm = some (nI 1) := by
  have h0 := hB 0
  have hn : ¬ V 0 - 1 < f := by omega
  unfold F_X10_isFrog F_X10_isIn
  simp (disch := first | omega | exact hB _) only [hR, Nat.not_lt_zero, hn, ob_s, ob2_s, chk_t, lt_s', litI, n_add, n_mul, n_sub, inb_n, ix_n, n_le, n_lt, n_eq, n_bit, n_m1_lt, n_m1_eq, n_m1_m, n_ne_m, n_m_ne, n_m_lt0, n_0_le_m, if_true, if_false, eq_self, not_true_eq_false, not_false_eq_true, isB_0, isB_1, Bool.false_eq_true, true_and, and_true, false_and, and_false, and_self, Nat.one_ne_zero, Nat.zero_ne_one, reduceIte]
theorem R_isFrog_f (hR : RR Mm V) (hB : ∀ k, V k < 2147483648) {x : Int32} (h : ¬ isL x (V 0)) : F_X10_isFrog n x Mm = some (nI 0) := by
  unfold F_X10_isFrog F_X10_isIn
  rcases not_isL h with hx | ⟨f, hf, hv, rfl⟩
  · simp (disch := first | omega | exact hB _) only [hR, hx, ob_s, ob2_s, chk_t, lt_s', litI, n_add, n_mul, n_sub, inb_n, ix_n, n_le, n_lt, n_eq, n_bit, n_m1_lt, n_m1_eq, n_m1_m, n_ne_m, n_m_ne, n_m_lt0, n_0_le_m, if_true, if_false, eq_self, not_true_eq_false, not_false_eq_true, isB_0, isB_1, Bool.false_eq_true, true_and, and_true, false_and, and_false, and_self, Nat.one_ne_zero, Nat.zero_ne_one, reduceIte]
  · have hn : V 0 < f + 1 := by omega
    simp (disch := first | omega | exact hB _) only [hR, Nat.not_lt_zero, hn, ob_s, ob2_s, chk_t, lt_s', litI, n_add, n_mul, n_sub, inb_n, ix_n, n_le, n_lt, n_eq, n_bit, n_m1_lt, n_m1_eq, n_m1_m, n_ne_m, n_m_ne, n_m_lt0, n_0_le_m, if_true, if_false, eq_self, not_true_eq_false, not_false_eq_true, isB_0, isB_1, Bool.false_eq_true, true_and, and_true, false_and, and_false, and_self, Nat.one_ne_zero, Nat.zero_ne_one, reduceIte]
theorem R_isPad_t (hR : RR Mm V) (hB : ∀ k, V k < 2147483648) {f : Nat} (hf : f < V 1) : F_X10_isPad n (nI f) Mm = some (nI 1) := by
  have h0 := hB 1
  have hn : ¬ V 1 - 1 < f := by omega
  unfold F_X10_isPad F_X10_isIn
  simp (disch := first | omega | exact hB _) only [hR, Nat.not_lt_zero, hn, ob_s, ob2_s, chk_t, lt_s', litI, n_add, n_mul, n_sub, inb_n, ix_n, n_le, n_lt, n_eq, n_bit, n_m1_lt, n_m1_eq, n_m1_m, n_ne_m, n_m_ne, n_m_lt0, n_0_le_m, if_true, if_false, eq_self, not_true_eq_false, not_false_eq_true, isB_0, isB_1, Bool.false_eq_true, true_and, and_true, false_and, and_false, and_self, Nat.one_ne_zero, Nat.zero_ne_one, reduceIte]
theorem R_isPad_f (hR : RR Mm V) (hB : ∀ k, V k < 2147483648) {x : Int32} (h : ¬ isL x (V 1)) : F_X10_isPad n x Mm = some (nI 0) := by
  unfold F_X10_isPad F_X10_isIn
  rcases not_isL h with hx | ⟨f, hf, hv, rfl⟩
  · simp (disch := first | omega | exact hB _) only [hR, hx, ob_s, ob2_s, chk_t, lt_s', litI, n_add, n_mul, n_sub, inb_n, ix_n, n_le, n_lt, n_eq, n_bit, n_m1_lt, n_m1_eq, n_m1_m, n_ne_m, n_m_ne, n_m_lt0, n_0_le_m, if_true, if_false, eq_self, not_true_eq_false, not_false_eq_true, isB_0, isB_1, Bool.false_eq_true, true_and, and_true, false_and, and_false, and_self, Nat.one_ne_zero, Nat.zero_ne_one, reduceIte]
  · have hn : V 1 < f + 1 := by omega
    simp (disch := first | omega | exact hB _) only [hR, Nat.not_lt_zero, hn, ob_s, ob2_s, chk_t, lt_s', litI, n_add, n_mul, n_sub, inb_n, ix_n, n_le, n_lt, n_eq, n_bit, n_m1_lt, n_m1_eq, n_m1_m, n_ne_m, n_m_ne, n_m_lt0, n_0_le_m, if_true, if_false, eq_self, not_true_eq_false, not_false_eq_true, isB_0, isB_1, Bool.false_eq_true, true_and, and_true, false_and, and_false, and_self, Nat.one_ne_zero, Nat.zero_ne_one, reduceIte]
theorem R_isMotion_t (hR : RR Mm V) (hB : ∀ k, V k < 2147483648) {f : Nat} (hf : f < V 2) : F_X10_isMotion n (nI f) Mm = some (nI 1) := by
  have h0 := hB 2
  have hn : ¬ V 2 - 1 < f := by omega
  unfold F_X10_isMotion F_X10_isIn
  simp (disch := first | omega | exact hB _) only [hR, Nat.not_lt_zero, hn, ob_s, ob2_s, chk_t, lt_s', litI, n_add, n_mul, n_sub, inb_n, ix_n, n_le, n_lt, n_eq, n_bit, n_m1_lt, n_m1_eq, n_m1_m, n_ne_m, n_m_ne, n_m_lt0, n_0_le_m, if_true, if_false, eq_self, not_true_eq_false, not_false_eq_true, isB_0, isB_1, Bool.false_eq_true, true_and, and_true, false_and, and_false, and_self, Nat.one_ne_zero, Nat.zero_ne_one, reduceIte]
theorem R_isMotion_f (hR : RR Mm V) (hB : ∀ k, V k < 2147483648) {x : Int32} (h : ¬ isL x (V 2)) : F_X10_isMotion n x Mm = some (nI 0) := by
  unfold F_X10_isMotion F_X10_isIn
  rcases not_isL h with hx | ⟨f, hf, hv, rfl⟩
  · simp (disch := first | omega | exact hB _) only [hR, hx, ob_s, ob2_s, chk_t, lt_s', litI, n_add, n_mul, n_sub, inb_n, ix_n, n_le, n_lt, n_eq, n_bit, n_m1_lt, n_m1_eq, n_m1_m, n_ne_m, n_m_ne, n_m_lt0, n_0_le_m, if_true, if_false, eq_self, not_true_eq_false, not_false_eq_true, isB_0, isB_1, Bool.false_eq_true, true_and, and_true, false_and, and_false, and_self, Nat.one_ne_zero, Nat.zero_ne_one, reduceIte]
  · have hn : V 2 < f + 1 := by omega
    simp (disch := first | omega | exact hB _) only [hR, Nat.not_lt_zero, hn, ob_s, ob2_s, chk_t, lt_s', litI, n_add, n_mul, n_sub, inb_n, ix_n, n_le, n_lt, n_eq, n_bit, n_m1_lt, n_m1_eq, n_m1_m, n_ne_m, n_m_ne, n_m_lt0, n_0_le_m, if_true, if_false, eq_self, not_true_eq_false, not_false_eq_true, isB_0, isB_1, Bool.false_eq_true, true_and, and_true, false_and, and_false, and_self, Nat.one_ne_zero, Nat.zero_ne_one, reduceIte]
theorem R_there_t (hR : RR Mm V) (hB : ∀ k, V k < 2147483648) {i f : Nat} (hi : i < V 2) (hf : f < V 0) : F_X10_areThere n (nI i) (nI f) Mm = some (nI 1) := by
  unfold F_X10_areThere
  simp (disch := first | omega | exact hB _) only [R_isMotion_t hR hB hi, R_isFrog_t hR hB hf, Nat.one_ne_zero, ob_s, ob2_s, chk_t, lt_s', litI, n_add, n_mul, n_sub, inb_n, ix_n, n_le, n_lt, n_eq, n_bit, n_m1_lt, n_m1_eq, n_m1_m, n_ne_m, n_m_ne, n_m_lt0, n_0_le_m, if_true, if_false, eq_self, not_true_eq_false, not_false_eq_true, isB_0, isB_1, Bool.false_eq_true, true_and, and_true, false_and, and_false, and_self, Nat.one_ne_zero, Nat.zero_ne_one, reduceIte]
theorem R_there_f (hR : RR Mm V) (hB : ∀ k, V k < 2147483648) {x y : Int32} (h : ¬ (isL x (V 2) ∧ isL y (V 0))) : F_X10_areThere n x y Mm = some (nI 0) := by
  unfold F_X10_areThere
  by_cases h1 : isL x (V 2)
  · have h2 : ¬ isL y (V 0) := fun q => h ⟨h1, q⟩
    obtain ⟨i, hi, rfl⟩ := h1
    simp (disch := first | omega | exact hB _) only [R_isMotion_t hR hB hi, R_isFrog_f hR hB h2, Nat.one_ne_zero, ob_s, ob2_s, chk_t, lt_s', litI, n_add, n_mul, n_sub, inb_n, ix_n, n_le, n_lt, n_eq, n_bit, n_m1_lt, n_m1_eq, n_m1_m, n_ne_m, n_m_ne, n_m_lt0, n_0_le_m, if_true, if_false, eq_self, not_true_eq_false, not_false_eq_true, isB_0, isB_1, Bool.false_eq_true, true_and, and_true, false_and, and_false, and_self, Nat.one_ne_zero, Nat.zero_ne_one, reduceIte]
  · simp (disch := first | omega | exact hB _) only [R_isMotion_f hR hB h1, ob_s, ob2_s, chk_t, lt_s', litI, n_add, n_mul, n_sub, inb_n, ix_n, n_le, n_lt, n_eq, n_bit, n_m1_lt, n_m1_eq, n_m1_m, n_ne_m, n_m_ne, n_m_lt0, n_0_le_m, if_true, if_false, eq_self, not_true_eq_false, not_false_eq_true, isB_0, isB_1, Bool.false_eq_true, true_and, and_true, false_and, and_false, and_self, Nat.one_ne_zero, Nat.zero_ne_one, reduceIte]
theorem R_of (i k : Nat) (M : Mem) : F_X10_of n (nI i) (nI k) M = some (nI (59 + 10 * i + k)) := by
  unfold F_X10_of
  rw [litI, litI, n_mul, n_add, n_add]
theorem R_listed (i k : Nat) (M : Mem) : F_X10_listed n (nI i) (nI k) M = some (nI (119 + 12 * i + k)) := by
  unfold F_X10_listed
  rw [litI, litI, n_mul, n_add, n_add]
theorem R_croaked (i k : Nat) (M : Mem) : F_X10_croaked n (nI i) (nI k) M = some (nI (191 + 36 * i + 3 * k)) := by
  unfold F_X10_croaked
  rw [litI, litI, litI, n_mul, n_mul, n_add, n_add]
theorem R_isOn (hR : RR Mm V) (hB : ∀ k, V k < 2147483648) {f : Nat} (hf : f < 12) : F_X10_isOn n (nI f) Mm = some (if V (29 + f) = 0 then nI 0 else nI 1) := by
  unfold F_X10_isOn
  simp (disch := first | omega | exact hB _) only [hR, Nat.le_zero, ob_s, ob2_s, chk_t, lt_s', litI, n_add, n_mul, n_sub, inb_n, ix_n, n_le, n_lt, n_eq, n_bit, n_m1_lt, n_m1_eq, n_m1_m, n_ne_m, n_m_ne, n_m_lt0, n_0_le_m, if_true, if_false, eq_self, not_true_eq_false, not_false_eq_true, isB_0, isB_1, Bool.false_eq_true, true_and, and_true, false_and, and_false, and_self, Nat.one_ne_zero, Nat.zero_ne_one, reduceIte]
  split <;> rfl
theorem R_on (hR : RR Mm V) (hB : ∀ k, V k < 2147483648) (hF : V 0 ≤ 12) (hn : 13 ≤ n) {p : Nat} (hp : p < 65536) : F_X10_on n (nI p) Mm = some (nI (onN V p)) := by
  unfold F_X10_on
  refine loopS (fun k f => F_X10_on_L4 n Mm k (nI p) (nI (sm (fun f => if V (29 + f) = p + 1 then 1 else 0) f)) (nI f)) (V 0) _ (fun k => ?_) (fun k f hf => ?_) n (by omega)
  · simp only [F_X10_on_L4]
    simp (disch := first | omega | exact hB _) only [hR, Nat.le_refl, ob_s, ob2_s, chk_t, lt_s', litI, n_add, n_mul, n_sub, inb_n, ix_n, n_le, n_lt, n_eq, n_bit, n_m1_lt, n_m1_eq, n_m1_m, n_ne_m, n_m_ne, n_m_lt0, n_0_le_m, if_true, if_false, eq_self, not_true_eq_false, not_false_eq_true, isB_0, isB_1, Bool.false_eq_true, true_and, and_true, false_and, and_false, and_self, Nat.one_ne_zero, Nat.zero_ne_one, reduceIte]
    rfl
  · have h : ¬ V 0 ≤ f := by omega
    simp only [F_X10_on_L4]
    simp (disch := first | omega | exact hB _) only [hR, h, ob_s, ob2_s, chk_t, lt_s', litI, n_add, n_mul, n_sub, inb_n, ix_n, n_le, n_lt, n_eq, n_bit, n_m1_lt, n_m1_eq, n_m1_m, n_ne_m, n_m_ne, n_m_lt0, n_0_le_m, if_true, if_false, eq_self, not_true_eq_false, not_false_eq_true, isB_0, isB_1, Bool.false_eq_true, true_and, and_true, false_and, and_false, and_self, Nat.one_ne_zero, Nat.zero_ne_one, reduceIte]
    by_cases e : V (29 + f) = p + 1
    · simp (disch := first | omega | exact hB _) only [e, sm_s, ob_s, ob2_s, chk_t, lt_s', litI, n_add, n_mul, n_sub, inb_n, ix_n, n_le, n_lt, n_eq, n_bit, n_m1_lt, n_m1_eq, n_m1_m, n_ne_m, n_m_ne, n_m_lt0, n_0_le_m, if_true, if_false, eq_self, not_true_eq_false, not_false_eq_true, isB_0, isB_1, Bool.false_eq_true, true_and, and_true, false_and, and_false, and_self, Nat.one_ne_zero, Nat.zero_ne_one, reduceIte]
    · simp (disch := first | omega | exact hB _) only [e, sm_s, ob_s, ob2_s, chk_t, lt_s', litI, n_add, n_mul, n_sub, inb_n, ix_n, n_le, n_lt, n_eq, n_bit, n_m1_lt, n_m1_eq, n_m1_m, n_ne_m, n_m_ne, n_m_lt0, n_0_le_m, if_true, if_false, eq_self, not_true_eq_false, not_false_eq_true, isB_0, isB_1, Bool.false_eq_true, true_and, and_true, false_and, and_false, and_self, Nat.one_ne_zero, Nat.zero_ne_one, reduceIte]
theorem R_padWeight (hR : RR Mm V) (hB : ∀ k, V k < 2147483648) (hF : V 0 ≤ 12) (hn : 13 ≤ n) {p : Nat} (hp : p < 65536) (h0 : Mm 0 0 = nI 0) : F_X10_padWeight_L21 n n (nI p) 0 0 Mm = some (nI (padW V p), Mm) := by
  refine loopS (fun k f => F_X10_padWeight_L21 n k (nI p) (nI (sm (fun f => if V (29 + f) = p + 1 then V (17 + f) else 0) f)) (nI f) Mm) (V 0) _ (fun k => ?_) (fun k f hf => ?_) n (by omega)
  · simp only [F_X10_padWeight_L21]
    simp (disch := first | omega | exact hB _) only [hR, Nat.le_refl, h0, ob_s, ob2_s, chk_t, lt_s', litI, n_add, n_mul, n_sub, inb_n, ix_n, n_le, n_lt, n_eq, n_bit, n_m1_lt, n_m1_eq, n_m1_m, n_ne_m, n_m_ne, n_m_lt0, n_0_le_m, if_true, if_false, eq_self, not_true_eq_false, not_false_eq_true, isB_0, isB_1, Bool.false_eq_true, true_and, and_true, false_and, and_false, and_self, Nat.one_ne_zero, Nat.zero_ne_one, reduceIte]
    rfl
  · have h : ¬ V 0 ≤ f := by omega
    simp only [F_X10_padWeight_L21]
    simp (disch := first | omega | exact hB _) only [hR, h, ob_s, ob2_s, chk_t, lt_s', litI, n_add, n_mul, n_sub, inb_n, ix_n, n_le, n_lt, n_eq, n_bit, n_m1_lt, n_m1_eq, n_m1_m, n_ne_m, n_m_ne, n_m_lt0, n_0_le_m, if_true, if_false, eq_self, not_true_eq_false, not_false_eq_true, isB_0, isB_1, Bool.false_eq_true, true_and, and_true, false_and, and_false, and_self, Nat.one_ne_zero, Nat.zero_ne_one, reduceIte]
    by_cases e : V (29 + f) = p + 1
    · simp (disch := first | omega | exact hB _) only [e, sm_s, ob_s, ob2_s, chk_t, lt_s', litI, n_add, n_mul, n_sub, inb_n, ix_n, n_le, n_lt, n_eq, n_bit, n_m1_lt, n_m1_eq, n_m1_m, n_ne_m, n_m_ne, n_m_lt0, n_0_le_m, if_true, if_false, eq_self, not_true_eq_false, not_false_eq_true, isB_0, isB_1, Bool.false_eq_true, true_and, and_true, false_and, and_false, and_self, Nat.one_ne_zero, Nat.zero_ne_one, reduceIte]
    · simp (disch := first | omega | exact hB _) only [e, sm_s, ob_s, ob2_s, chk_t, lt_s', litI, n_add, n_mul, n_sub, inb_n, ix_n, n_le, n_lt, n_eq, n_bit, n_m1_lt, n_m1_eq, n_m1_m, n_ne_m, n_m_ne, n_m_lt0, n_0_le_m, if_true, if_false, eq_self, not_true_eq_false, not_false_eq_true, isB_0, isB_1, Bool.false_eq_true, true_and, and_true, false_and, and_false, and_self, Nat.one_ne_zero, Nat.zero_ne_one, reduceIte]
theorem R_sitting (hR : RR Mm V) (hB : ∀ k, V k < 2147483648) (hF : V 0 ≤ 12) (hn : 13 ≤ n) : F_X10_sitting n Mm = some (nI (sitN V)) := by
  unfold F_X10_sitting
  refine loopS (fun k f => F_X10_sitting_L4 n Mm k (nI (sm (fun f => if V (29 + f) = 0 then 0 else 1) f)) (nI f)) (V 0) _ (fun k => ?_) (fun k f hf => ?_) n (by omega)
  · simp only [F_X10_sitting_L4]
    simp (disch := first | omega | exact hB _) only [hR, Nat.le_refl, ob_s, ob2_s, chk_t, lt_s', litI, n_add, n_mul, n_sub, inb_n, ix_n, n_le, n_lt, n_eq, n_bit, n_m1_lt, n_m1_eq, n_m1_m, n_ne_m, n_m_ne, n_m_lt0, n_0_le_m, if_true, if_false, eq_self, not_true_eq_false, not_false_eq_true, isB_0, isB_1, Bool.false_eq_true, true_and, and_true, false_and, and_false, and_self, Nat.one_ne_zero, Nat.zero_ne_one, reduceIte]
    rfl
  · have h : ¬ V 0 ≤ f := by omega
    simp only [F_X10_sitting_L4]
    simp (disch := first | omega | exact hB _) only [hR, h, R_isOn hR hB, ob_s, ob2_s, chk_t, lt_s', litI, n_add, n_mul, n_sub, inb_n, ix_n, n_le, n_lt, n_eq, n_bit, n_m1_lt, n_m1_eq, n_m1_m, n_ne_m, n_m_ne, n_m_lt0, n_0_le_m, if_true, if_false, eq_self, not_true_eq_false, not_false_eq_true, isB_0, isB_1, Bool.false_eq_true, true_and, and_true, false_and, and_false, and_self, Nat.one_ne_zero, Nat.zero_ne_one, reduceIte]
    by_cases e : V (29 + f) = 0
    · simp (disch := first | omega | exact hB _) only [e, sm_s, ob_s, ob2_s, chk_t, lt_s', litI, n_add, n_mul, n_sub, inb_n, ix_n, n_le, n_lt, n_eq, n_bit, n_m1_lt, n_m1_eq, n_m1_m, n_ne_m, n_m_ne, n_m_lt0, n_0_le_m, if_true, if_false, eq_self, not_true_eq_false, not_false_eq_true, isB_0, isB_1, Bool.false_eq_true, true_and, and_true, false_and, and_false, and_self, Nat.one_ne_zero, Nat.zero_ne_one, reduceIte]
    · simp (disch := first | omega | exact hB _) only [e, sm_s, Nat.one_ne_zero, ob_s, ob2_s, chk_t, lt_s', litI, n_add, n_mul, n_sub, inb_n, ix_n, n_le, n_lt, n_eq, n_bit, n_m1_lt, n_m1_eq, n_m1_m, n_ne_m, n_m_ne, n_m_lt0, n_0_le_m, if_true, if_false, eq_self, not_true_eq_false, not_false_eq_true, isB_0, isB_1, Bool.false_eq_true, true_and, and_true, false_and, and_false, and_self, Nat.one_ne_zero, Nat.zero_ne_one, reduceIte]
theorem bool_n (b : Bool) : (nI b.toNat = nI 1) = (b = true) := by cases b <;> simp <;> decide
theorem bool_0 (b : Bool) : (nI b.toNat = nI 0) = (b = false) := by cases b <;> simp <;> decide
theorem n10 : (nI 1 = nI 0) = False := by simp; decide
theorem n01 : (nI 0 = nI 1) = False := by simp; decide
theorem R_isFor (hR : RR Mm V) (W : WF c V) {i f : Nat} (hi : i < 6) (hf : f < 12) : F_X10_isFor n (nI i) (nI f) Mm = some (if enT V i f = true then nI 1 else nI 0) := by
  have hB := W.b
  have h1 := (W.fr hf).1
  have e : F_X10_of n (nI i) 0 Mm = some (nI (59 + 10 * i)) := R_of i 0 Mm
  unfold F_X10_isFor enT
  rw [e]
  simp (disch := first | omega | exact hB _) only [hR, bool_n, ob_s, ob2_s, chk_t, lt_s', litI, n_add, n_mul, n_sub, inb_n, ix_n, n_le, n_lt, n_eq, n_bit, n_m1_lt, n_m1_eq, n_m1_m, n_ne_m, n_m_ne, n_m_lt0, n_0_le_m, if_true, if_false, eq_self, not_true_eq_false, not_false_eq_true, isB_0, isB_1, Bool.false_eq_true, true_and, and_true, false_and, and_false, and_self, Nat.one_ne_zero, Nat.zero_ne_one, reduceIte]
  split <;> rfl
theorem R_place (hR : RR Mm V) (W : WF c V) (hn : 13 ≤ n) {i f : Nat} (hi : i < 6) (hf : f < 65536) : F_X10_place n (nI i) (nI f) Mm = some (if plc V i f < V (59 + 10 * i + 5) then nI (plc V i f) else -nI 1) := by
  have hB := W.b
  have hl := W.li hi
  have hq := fst_le (fun k => decide (V (119 + 12 * i + k) = f)) (V (59 + 10 * i + 5))
  unfold F_X10_place
  refine loopS (fun k q => F_X10_place_L2 n Mm k (nI i) (nI f) (nI q)) (plc V i f) _ (fun k => ?_) (fun k q hq2 => ?_) n (by unfold plc; omega)
  · simp only [F_X10_place_L2]
    simp (disch := first | omega | exact hB _) only [hR, R_of, R_listed, ob_s, ob2_s, chk_t, lt_s', litI, n_add, n_mul, n_sub, inb_n, ix_n, n_le, n_lt, n_eq, n_bit, n_m1_lt, n_m1_eq, n_m1_m, n_ne_m, n_m_ne, n_m_lt0, n_0_le_m, if_true, if_false, eq_self, not_true_eq_false, not_false_eq_true, isB_0, isB_1, Bool.false_eq_true, true_and, and_true, false_and, and_false, and_self, Nat.one_ne_zero, Nat.zero_ne_one, reduceIte]
    by_cases h : plc V i f < V (59 + 10 * i + 5)
    · have h2 := fst_at _ _ h
      have h3 : ¬ V (59 + 10 * i + 5) ≤ plc V i f := by omega
      have h4 : V (119 + 12 * i + plc V i f) = f := of_decide_eq_true h2
      simp (disch := first | omega | exact hB _) only [hR, h, h3, h4, ob_s, ob2_s, chk_t, lt_s', litI, n_add, n_mul, n_sub, inb_n, ix_n, n_le, n_lt, n_eq, n_bit, n_m1_lt, n_m1_eq, n_m1_m, n_ne_m, n_m_ne, n_m_lt0, n_0_le_m, if_true, if_false, eq_self, not_true_eq_false, not_false_eq_true, isB_0, isB_1, Bool.false_eq_true, true_and, and_true, false_and, and_false, and_self, Nat.one_ne_zero, Nat.zero_ne_one, reduceIte]
    · have h3 : V (59 + 10 * i + 5) ≤ plc V i f := by omega
      have h5 : plc V i f ≤ 12 := Nat.le_trans hq hl
      simp (disch := first | omega | exact hB _) only [h, h3, ob_s, ob2_s, chk_t, lt_s', litI, n_add, n_mul, n_sub, inb_n, ix_n, n_le, n_lt, n_eq, n_bit, n_m1_lt, n_m1_eq, n_m1_m, n_ne_m, n_m_ne, n_m_lt0, n_0_le_m, if_true, if_false, eq_self, not_true_eq_false, not_false_eq_true, isB_0, isB_1, Bool.false_eq_true, true_and, and_true, false_and, and_false, and_self, Nat.one_ne_zero, Nat.zero_ne_one, reduceIte]
  · have h2 := fst_lo _ _ q hq2
    have h4 : ¬ V (119 + 12 * i + q) = f := of_decide_eq_false h2
    have h3 : ¬ V (59 + 10 * i + 5) ≤ q := by unfold plc at hq2; omega
    simp only [F_X10_place_L2]
    simp (disch := first | omega | exact hB _) only [hR, R_of, R_listed, h3, h4, ob_s, ob2_s, chk_t, lt_s', litI, n_add, n_mul, n_sub, inb_n, ix_n, n_le, n_lt, n_eq, n_bit, n_m1_lt, n_m1_eq, n_m1_m, n_ne_m, n_m_ne, n_m_lt0, n_0_le_m, if_true, if_false, eq_self, not_true_eq_false, not_false_eq_true, isB_0, isB_1, Bool.false_eq_true, true_and, and_true, false_and, and_false, and_self, Nat.one_ne_zero, Nat.zero_ne_one, reduceIte]
theorem R_ahead (hR : RR Mm V) (W : WF c V) (hn : 13 ≤ n) {i k : Nat} (hi : i < 6) (hk : k < V (59 + 10 * i + 5)) : F_X10_ahead n (nI i) (nI k) Mm = some (nI (ahN V i k)) := by
  have hB := W.b
  have hl := W.li hi
  have hF := W.F
  have hlk := W.lf hi hk
  unfold F_X10_ahead
  simp (disch := first | omega | exact hB _) only [hR, R_of, R_listed, ob_s, ob2_s, chk_t, lt_s', litI, n_add, n_mul, n_sub, inb_n, ix_n, n_le, n_lt, n_eq, n_bit, n_m1_lt, n_m1_eq, n_m1_m, n_ne_m, n_m_ne, n_m_lt0, n_0_le_m, if_true, if_false, eq_self, not_true_eq_false, not_false_eq_true, isB_0, isB_1, Bool.false_eq_true, true_and, and_true, false_and, and_false, and_self, Nat.one_ne_zero, Nat.zero_ne_one, reduceIte]
  refine loopS (fun q x => F_X10_ahead_L25 n Mm q (nI i) (nI k) (nI (V (41 + V (119 + 12 * i + k)))) (nI (sm (fun x => if V (41 + V (119 + 12 * i + x)) < V (41 + V (119 + 12 * i + k)) then 1 else if V (41 + V (119 + 12 * i + x)) = V (41 + V (119 + 12 * i + k)) then (if k ≤ x then 0 else 1) else 0) x)) (nI x)) (V (59 + 10 * i + 5)) _ (fun q => ?_) (fun q x hx => ?_) n (by omega)
  · simp only [F_X10_ahead_L25]
    simp (disch := first | omega | exact hB _) only [hR, R_of, Nat.le_refl, ob_s, ob2_s, chk_t, lt_s', litI, n_add, n_mul, n_sub, inb_n, ix_n, n_le, n_lt, n_eq, n_bit, n_m1_lt, n_m1_eq, n_m1_m, n_ne_m, n_m_ne, n_m_lt0, n_0_le_m, if_true, if_false, eq_self, not_true_eq_false, not_false_eq_true, isB_0, isB_1, Bool.false_eq_true, true_and, and_true, false_and, and_false, and_self, Nat.one_ne_zero, Nat.zero_ne_one, reduceIte]
    rfl
  · have hlx := W.lf hi hx
    have h : ¬ V (59 + 10 * i + 5) ≤ x := by omega
    simp only [F_X10_ahead_L25]
    simp (disch := first | omega | exact hB _) only [hR, R_of, R_listed, h, sm_s, ob_s, ob2_s, chk_t, lt_s', litI, n_add, n_mul, n_sub, inb_n, ix_n, n_le, n_lt, n_eq, n_bit, n_m1_lt, n_m1_eq, n_m1_m, n_ne_m, n_m_ne, n_m_lt0, n_0_le_m, if_true, if_false, eq_self, not_true_eq_false, not_false_eq_true, isB_0, isB_1, Bool.false_eq_true, true_and, and_true, false_and, and_false, and_self, Nat.one_ne_zero, Nat.zero_ne_one, reduceIte]
    by_cases e1 : V (41 + V (119 + 12 * i + x)) < V (41 + V (119 + 12 * i + k))
    · simp (disch := first | omega | exact hB _) only [e1, ob_s, ob2_s, chk_t, lt_s', litI, n_add, n_mul, n_sub, inb_n, ix_n, n_le, n_lt, n_eq, n_bit, n_m1_lt, n_m1_eq, n_m1_m, n_ne_m, n_m_ne, n_m_lt0, n_0_le_m, if_true, if_false, eq_self, not_true_eq_false, not_false_eq_true, isB_0, isB_1, Bool.false_eq_true, true_and, and_true, false_and, and_false, and_self, Nat.one_ne_zero, Nat.zero_ne_one, reduceIte]
    · by_cases e2 : V (41 + V (119 + 12 * i + x)) = V (41 + V (119 + 12 * i + k))
      · by_cases e3 : k ≤ x
        · simp (disch := first | omega | exact hB _) only [e1, e2, e3, Nat.lt_irrefl, ob_s, ob2_s, chk_t, lt_s', litI, n_add, n_mul, n_sub, inb_n, ix_n, n_le, n_lt, n_eq, n_bit, n_m1_lt, n_m1_eq, n_m1_m, n_ne_m, n_m_ne, n_m_lt0, n_0_le_m, if_true, if_false, eq_self, not_true_eq_false, not_false_eq_true, isB_0, isB_1, Bool.false_eq_true, true_and, and_true, false_and, and_false, and_self, Nat.one_ne_zero, Nat.zero_ne_one, reduceIte]
        · simp (disch := first | omega | exact hB _) only [e1, e2, e3, Nat.lt_irrefl, ob_s, ob2_s, chk_t, lt_s', litI, n_add, n_mul, n_sub, inb_n, ix_n, n_le, n_lt, n_eq, n_bit, n_m1_lt, n_m1_eq, n_m1_m, n_ne_m, n_m_ne, n_m_lt0, n_0_le_m, if_true, if_false, eq_self, not_true_eq_false, not_false_eq_true, isB_0, isB_1, Bool.false_eq_true, true_and, and_true, false_and, and_false, and_self, Nat.one_ne_zero, Nat.zero_ne_one, reduceIte]
      · simp (disch := first | omega | exact hB _) only [e1, e2, ob_s, ob2_s, chk_t, lt_s', litI, n_add, n_mul, n_sub, inb_n, ix_n, n_le, n_lt, n_eq, n_bit, n_m1_lt, n_m1_eq, n_m1_m, n_ne_m, n_m_ne, n_m_lt0, n_0_le_m, if_true, if_false, eq_self, not_true_eq_false, not_false_eq_true, isB_0, isB_1, Bool.false_eq_true, true_and, and_true, false_and, and_false, and_self, Nat.one_ne_zero, Nat.zero_ne_one, reduceIte]
theorem R_ranked (hR : RR Mm V) (W : WF c V) (hn : 13 ≤ n) {i r : Nat} (hi : i < 6) (hr : r < 65536) : F_X10_ranked n (nI i) (nI r) Mm = some (if rkd V i r < V (59 + 10 * i + 5) then nI (rkd V i r) else -nI 1) := by
  have hB := W.b
  have hl := W.li hi
  have hq := fst_le (fun k => decide (ahN V i k = r)) (V (59 + 10 * i + 5))
  have hb : ∀ k, ahN V i k ≤ 12 := fun k => by
    unfold ahN
    have := sm_le (g := fun x => if V (41 + V (119 + 12 * i + x)) < V (41 + V (119 + 12 * i + k)) then 1 else if V (41 + V (119 + 12 * i + x)) = V (41 + V (119 + 12 * i + k)) then (if k ≤ x then 0 else 1) else 0) (B := 1) (n := V (59 + 10 * i + 5)) (fun x _ => by split <;> (try split) <;> (try split) <;> omega)
    omega
  unfold F_X10_ranked
  refine loopS (fun k q => F_X10_ranked_L2 n Mm k (nI i) (nI r) (nI q)) (rkd V i r) _ (fun k => ?_) (fun k q hq2 => ?_) n (by unfold rkd; omega)
  · simp only [F_X10_ranked_L2]
    simp (disch := first | omega | exact hB _) only [hR, R_of, ob_s, ob2_s, chk_t, lt_s', litI, n_add, n_mul, n_sub, inb_n, ix_n, n_le, n_lt, n_eq, n_bit, n_m1_lt, n_m1_eq, n_m1_m, n_ne_m, n_m_ne, n_m_lt0, n_0_le_m, if_true, if_false, eq_self, not_true_eq_false, not_false_eq_true, isB_0, isB_1, Bool.false_eq_true, true_and, and_true, false_and, and_false, and_self, Nat.one_ne_zero, Nat.zero_ne_one, reduceIte]
    by_cases h : rkd V i r < V (59 + 10 * i + 5)
    · have h2 := fst_at _ _ h
      have h3 : ¬ V (59 + 10 * i + 5) ≤ rkd V i r := by omega
      have h4 : ahN V i (rkd V i r) = r := of_decide_eq_true h2
      have h5 := hb (rkd V i r)
      simp (disch := first | omega | exact hB _) only [R_ahead hR W hn hi h, h, h3, h4, ob_s, ob2_s, chk_t, lt_s', litI, n_add, n_mul, n_sub, inb_n, ix_n, n_le, n_lt, n_eq, n_bit, n_m1_lt, n_m1_eq, n_m1_m, n_ne_m, n_m_ne, n_m_lt0, n_0_le_m, if_true, if_false, eq_self, not_true_eq_false, not_false_eq_true, isB_0, isB_1, Bool.false_eq_true, true_and, and_true, false_and, and_false, and_self, Nat.one_ne_zero, Nat.zero_ne_one, reduceIte]
    · have h3 : V (59 + 10 * i + 5) ≤ rkd V i r := by omega
      have h5 : rkd V i r ≤ 12 := Nat.le_trans hq hl
      simp (disch := first | omega | exact hB _) only [h, h3, ob_s, ob2_s, chk_t, lt_s', litI, n_add, n_mul, n_sub, inb_n, ix_n, n_le, n_lt, n_eq, n_bit, n_m1_lt, n_m1_eq, n_m1_m, n_ne_m, n_m_ne, n_m_lt0, n_0_le_m, if_true, if_false, eq_self, not_true_eq_false, not_false_eq_true, isB_0, isB_1, Bool.false_eq_true, true_and, and_true, false_and, and_false, and_self, Nat.one_ne_zero, Nat.zero_ne_one, reduceIte]
  · have h2 := fst_lo _ _ q hq2
    have h4 : ¬ ahN V i q = r := of_decide_eq_false h2
    have hq3 : q < V (59 + 10 * i + 5) := by unfold rkd at hq2; omega
    have h3 : ¬ V (59 + 10 * i + 5) ≤ q := by omega
    have h5 := hb q
    simp only [F_X10_ranked_L2]
    simp (disch := first | omega | exact hB _) only [hR, R_of, R_ahead hR W hn hi hq3, h3, h4, ob_s, ob2_s, chk_t, lt_s', litI, n_add, n_mul, n_sub, inb_n, ix_n, n_le, n_lt, n_eq, n_bit, n_m1_lt, n_m1_eq, n_m1_m, n_ne_m, n_m_ne, n_m_lt0, n_0_le_m, if_true, if_false, eq_self, not_true_eq_false, not_false_eq_true, isB_0, isB_1, Bool.false_eq_true, true_and, and_true, false_and, and_false, and_self, Nat.one_ne_zero, Nat.zero_ne_one, reduceIte]
theorem R_backing (hR : RR Mm V) (W : WF c V) (hn : 13 ≤ n) {i : Nat} (hi : i < 6) : F_X10_backing n (nI i) Mm = some (nI (backW V i)) := by
  have hB := W.b
  have hF := W.F
  unfold F_X10_backing
  refine loopS (fun k f => F_X10_backing_L4 n Mm k (nI i) (nI (sm (fun f => if (V (59 + 10 * i + 4)).testBit f = true then V (17 + f) else 0) f)) (nI f)) (V 0) _ (fun k => ?_) (fun k f hf => ?_) n (by omega)
  · simp only [F_X10_backing_L4]
    simp (disch := first | omega | exact hB _) only [hR, Nat.le_refl, ob_s, ob2_s, chk_t, lt_s', litI, n_add, n_mul, n_sub, inb_n, ix_n, n_le, n_lt, n_eq, n_bit, n_m1_lt, n_m1_eq, n_m1_m, n_ne_m, n_m_ne, n_m_lt0, n_0_le_m, if_true, if_false, eq_self, not_true_eq_false, not_false_eq_true, isB_0, isB_1, Bool.false_eq_true, true_and, and_true, false_and, and_false, and_self, Nat.one_ne_zero, Nat.zero_ne_one, reduceIte]
    rfl
  · have h : ¬ V 0 ≤ f := by omega
    simp only [F_X10_backing_L4]
    simp (disch := first | omega | exact hB _) only [hR, R_of, h, bool_n, ob_s, ob2_s, chk_t, lt_s', litI, n_add, n_mul, n_sub, inb_n, ix_n, n_le, n_lt, n_eq, n_bit, n_m1_lt, n_m1_eq, n_m1_m, n_ne_m, n_m_ne, n_m_lt0, n_0_le_m, if_true, if_false, eq_self, not_true_eq_false, not_false_eq_true, isB_0, isB_1, Bool.false_eq_true, true_and, and_true, false_and, and_false, and_self, Nat.one_ne_zero, Nat.zero_ne_one, reduceIte]
    by_cases e : (V (59 + 10 * i + 4)).testBit f = true
    · simp (disch := first | omega | exact hB _) only [e, sm_s, ob_s, ob2_s, chk_t, lt_s', litI, n_add, n_mul, n_sub, inb_n, ix_n, n_le, n_lt, n_eq, n_bit, n_m1_lt, n_m1_eq, n_m1_m, n_ne_m, n_m_ne, n_m_lt0, n_0_le_m, if_true, if_false, eq_self, not_true_eq_false, not_false_eq_true, isB_0, isB_1, Bool.false_eq_true, true_and, and_true, false_and, and_false, and_self, Nat.one_ne_zero, Nat.zero_ne_one, reduceIte]
    · simp (disch := first | omega | exact hB _) only [e, sm_s, ob_s, ob2_s, chk_t, lt_s', litI, n_add, n_mul, n_sub, inb_n, ix_n, n_le, n_lt, n_eq, n_bit, n_m1_lt, n_m1_eq, n_m1_m, n_ne_m, n_m_ne, n_m_lt0, n_0_le_m, if_true, if_false, eq_self, not_true_eq_false, not_false_eq_true, isB_0, isB_1, Bool.false_eq_true, true_and, and_true, false_and, and_false, and_self, Nat.one_ne_zero, Nat.zero_ne_one, reduceIte]
theorem R_entitled (hR : RR Mm V) (W : WF c V) (hn : 13 ≤ n) {i : Nat} (hi : i < 6) : F_X10_entitled n (nI i) Mm = some (nI (entW V i)) := by
  have hB := W.b
  have hF := W.F
  unfold F_X10_entitled
  refine loopS (fun k f => F_X10_entitled_L4 n Mm k (nI i) (nI (sm (fun f => if enT V i f = true then V (17 + f) else 0) f)) (nI f)) (V 0) _ (fun k => ?_) (fun k f hf => ?_) n (by omega)
  · simp only [F_X10_entitled_L4]
    simp (disch := first | omega | exact hB _) only [hR, Nat.le_refl, ob_s, ob2_s, chk_t, lt_s', litI, n_add, n_mul, n_sub, inb_n, ix_n, n_le, n_lt, n_eq, n_bit, n_m1_lt, n_m1_eq, n_m1_m, n_ne_m, n_m_ne, n_m_lt0, n_0_le_m, if_true, if_false, eq_self, not_true_eq_false, not_false_eq_true, isB_0, isB_1, Bool.false_eq_true, true_and, and_true, false_and, and_false, and_self, Nat.one_ne_zero, Nat.zero_ne_one, reduceIte]
    rfl
  · have h : ¬ V 0 ≤ f := by omega
    simp only [F_X10_entitled_L4]
    simp (disch := first | omega | exact hB _) only [hR, R_isFor hR W hi, h, ob_s, ob2_s, chk_t, lt_s', litI, n_add, n_mul, n_sub, inb_n, ix_n, n_le, n_lt, n_eq, n_bit, n_m1_lt, n_m1_eq, n_m1_m, n_ne_m, n_m_ne, n_m_lt0, n_0_le_m, if_true, if_false, eq_self, not_true_eq_false, not_false_eq_true, isB_0, isB_1, Bool.false_eq_true, true_and, and_true, false_and, and_false, and_self, Nat.one_ne_zero, Nat.zero_ne_one, reduceIte]
    by_cases e : enT V i f = true
    · simp (disch := first | omega | exact hB _) only [e, sm_s, n10, ob_s, ob2_s, chk_t, lt_s', litI, n_add, n_mul, n_sub, inb_n, ix_n, n_le, n_lt, n_eq, n_bit, n_m1_lt, n_m1_eq, n_m1_m, n_ne_m, n_m_ne, n_m_lt0, n_0_le_m, if_true, if_false, eq_self, not_true_eq_false, not_false_eq_true, isB_0, isB_1, Bool.false_eq_true, true_and, and_true, false_and, and_false, and_self, Nat.one_ne_zero, Nat.zero_ne_one, reduceIte]
    · simp (disch := first | omega | exact hB _) only [e, sm_s, ob_s, ob2_s, chk_t, lt_s', litI, n_add, n_mul, n_sub, inb_n, ix_n, n_le, n_lt, n_eq, n_bit, n_m1_lt, n_m1_eq, n_m1_m, n_ne_m, n_m_ne, n_m_lt0, n_0_le_m, if_true, if_false, eq_self, not_true_eq_false, not_false_eq_true, isB_0, isB_1, Bool.false_eq_true, true_and, and_true, false_and, and_false, and_self, Nat.one_ne_zero, Nat.zero_ne_one, reduceIte]
theorem R_isShut (hR : RR Mm V) (W : WF c V) {i : Nat} (hi : i < 6) : F_X10_isShut n (nI i) Mm = some (if V (59 + 10 * i + 2) = 1 then nI 1 else if V (59 + 10 * i + 1) = 1 then nI 1 else nI 0) := by
  have hB := W.b
  unfold F_X10_isShut
  simp (disch := first | omega | exact hB _) only [hR, R_of, ob_s, ob2_s, chk_t, lt_s', litI, n_add, n_mul, n_sub, inb_n, ix_n, n_le, n_lt, n_eq, n_bit, n_m1_lt, n_m1_eq, n_m1_m, n_ne_m, n_m_ne, n_m_lt0, n_0_le_m, if_true, if_false, eq_self, not_true_eq_false, not_false_eq_true, isB_0, isB_1, Bool.false_eq_true, true_and, and_true, false_and, and_false, and_self, Nat.one_ne_zero, Nat.zero_ne_one, reduceIte]
  split <;> (try split) <;> rfl
theorem R_isDue (hR : RR Mm V) (W : WF c V) {i : Nat} (hi : i < 6) : F_X10_isDue n (nI i) Mm = some (if V (59 + 10 * i + 2) = 0 then (if V (59 + 10 * i + 1) = 1 then (if V (59 + 10 * i + 5) = 0 then nI 1 else nI 0) else nI 0) else nI 0) := by
  have hB := W.b
  unfold F_X10_isDue
  simp (disch := first | omega | exact hB _) only [hR, R_of, ob_s, ob2_s, chk_t, lt_s', litI, n_add, n_mul, n_sub, inb_n, ix_n, n_le, n_lt, n_eq, n_bit, n_m1_lt, n_m1_eq, n_m1_m, n_ne_m, n_m_ne, n_m_lt0, n_0_le_m, if_true, if_false, eq_self, not_true_eq_false, not_false_eq_true, isB_0, isB_1, Bool.false_eq_true, true_and, and_true, false_and, and_false, and_self, Nat.one_ne_zero, Nat.zero_ne_one, reduceIte]
  split <;> (try split) <;> (try split) <;> rfl
theorem R_strength (hR : RR Mm V) (W : WF c V) {i k : Nat} (hi : i < 6) (hk : k < V (59 + 10 * i + 7)) : F_X10_strength n (nI i) (nI k) Mm = some (nI (stg V i k)) := by
  have hB := W.b
  have hF := W.F
  have hl := W.ci hi
  have hc := W.cf hi hk
  unfold F_X10_strength stg
  simp (disch := first | omega | exact hB _) only [hR, R_croaked, ob_s, ob2_s, chk_t, lt_s', litI, n_add, n_mul, n_sub, inb_n, ix_n, n_le, n_lt, n_eq, n_bit, n_m1_lt, n_m1_eq, n_m1_m, n_ne_m, n_m_ne, n_m_lt0, n_0_le_m, if_true, if_false, eq_self, not_true_eq_false, not_false_eq_true, isB_0, isB_1, Bool.false_eq_true, true_and, and_true, false_and, and_false, and_self, Nat.one_ne_zero, Nat.zero_ne_one, reduceIte]
theorem stg_le (W : WF c V) {i k : Nat} (hi : i < 6) (hk : k < V (59 + 10 * i + 7)) : stg V i k ≤ 81 := by
  have hc := W.cf hi hk
  have h := W.F
  have hw := (W.fr (f := V (191 + 36 * i + 3 * k)) (by omega)).2.1
  exact Nat.mul_le_mul hc.2.1 hw
theorem R_sum (hR : RR Mm V) (W : WF c V) (hn : 13 ≤ n) {i s : Nat} (hi : i < 6) (hs : s < 65536) : F_X10_sum n (nI i) (nI s) Mm = some (nI (sumS V i s)) := by
  have hB := W.b
  have hl := W.ci hi
  unfold F_X10_sum
  refine loopS (fun k f => F_X10_sum_L5 n Mm k (nI i) (nI s) (nI (sm (fun k => if V (191 + 36 * i + 3 * k + 2) = s then stg V i k else 0) f)) (nI f)) (V (59 + 10 * i + 7)) _ (fun k => ?_) (fun k f hf => ?_) n (by omega)
  · simp only [F_X10_sum_L5]
    simp (disch := first | omega | exact hB _) only [hR, R_of, Nat.le_refl, ob_s, ob2_s, chk_t, lt_s', litI, n_add, n_mul, n_sub, inb_n, ix_n, n_le, n_lt, n_eq, n_bit, n_m1_lt, n_m1_eq, n_m1_m, n_ne_m, n_m_ne, n_m_lt0, n_0_le_m, if_true, if_false, eq_self, not_true_eq_false, not_false_eq_true, isB_0, isB_1, Bool.false_eq_true, true_and, and_true, false_and, and_false, and_self, Nat.one_ne_zero, Nat.zero_ne_one, reduceIte]
    rfl
  · have h : ¬ V (59 + 10 * i + 7) ≤ f := by omega
    simp only [F_X10_sum_L5]
    simp (disch := first | omega | exact hB _) only [hR, R_of, R_croaked, h, sm_s, ob_s, ob2_s, chk_t, lt_s', litI, n_add, n_mul, n_sub, inb_n, ix_n, n_le, n_lt, n_eq, n_bit, n_m1_lt, n_m1_eq, n_m1_m, n_ne_m, n_m_ne, n_m_lt0, n_0_le_m, if_true, if_false, eq_self, not_true_eq_false, not_false_eq_true, isB_0, isB_1, Bool.false_eq_true, true_and, and_true, false_and, and_false, and_self, Nat.one_ne_zero, Nat.zero_ne_one, reduceIte]
    by_cases e : V (191 + 36 * i + 3 * f + 2) = s
    · simp (disch := first | omega | exact hB _) only [e, R_strength hR W hi hf, ob_s, ob2_s, chk_t, lt_s', litI, n_add, n_mul, n_sub, inb_n, ix_n, n_le, n_lt, n_eq, n_bit, n_m1_lt, n_m1_eq, n_m1_m, n_ne_m, n_m_ne, n_m_lt0, n_0_le_m, if_true, if_false, eq_self, not_true_eq_false, not_false_eq_true, isB_0, isB_1, Bool.false_eq_true, true_and, and_true, false_and, and_false, and_self, Nat.one_ne_zero, Nat.zero_ne_one, reduceIte]
    · simp (disch := first | omega | exact hB _) only [e, ob_s, ob2_s, chk_t, lt_s', litI, n_add, n_mul, n_sub, inb_n, ix_n, n_le, n_lt, n_eq, n_bit, n_m1_lt, n_m1_eq, n_m1_m, n_ne_m, n_m_ne, n_m_lt0, n_0_le_m, if_true, if_false, eq_self, not_true_eq_false, not_false_eq_true, isB_0, isB_1, Bool.false_eq_true, true_and, and_true, false_and, and_false, and_self, Nat.one_ne_zero, Nat.zero_ne_one, reduceIte]
theorem R_hasCroaked (hR : RR Mm V) (W : WF c V) (hn : 13 ≤ n) {i f : Nat} (hi : i < 6) (hf : f < 65536) : F_X10_hasCroaked n (nI i) (nI f) Mm = some (if crk V i f < V (59 + 10 * i + 7) then nI 1 else nI 0) := by
  have hB := W.b
  have hl := W.ci hi
  have hq := fst_le (fun k => decide (V (191 + 36 * i + 3 * k) = f)) (V (59 + 10 * i + 7))
  unfold F_X10_hasCroaked
  refine loopS (fun k q => F_X10_hasCroaked_L2 n Mm k (nI i) (nI f) (nI q)) (crk V i f) _ (fun k => ?_) (fun k q hq2 => ?_) n (by unfold crk; omega)
  · simp only [F_X10_hasCroaked_L2]
    simp (disch := first | omega | exact hB _) only [hR, R_of, R_croaked, ob_s, ob2_s, chk_t, lt_s', litI, n_add, n_mul, n_sub, inb_n, ix_n, n_le, n_lt, n_eq, n_bit, n_m1_lt, n_m1_eq, n_m1_m, n_ne_m, n_m_ne, n_m_lt0, n_0_le_m, if_true, if_false, eq_self, not_true_eq_false, not_false_eq_true, isB_0, isB_1, Bool.false_eq_true, true_and, and_true, false_and, and_false, and_self, Nat.one_ne_zero, Nat.zero_ne_one, reduceIte]
    by_cases h : crk V i f < V (59 + 10 * i + 7)
    · have h2 := fst_at _ _ h
      have h3 : ¬ V (59 + 10 * i + 7) ≤ crk V i f := by omega
      have h4 : V (191 + 36 * i + 3 * crk V i f) = f := of_decide_eq_true h2
      simp (disch := first | omega | exact hB _) only [hR, h, h3, h4, ob_s, ob2_s, chk_t, lt_s', litI, n_add, n_mul, n_sub, inb_n, ix_n, n_le, n_lt, n_eq, n_bit, n_m1_lt, n_m1_eq, n_m1_m, n_ne_m, n_m_ne, n_m_lt0, n_0_le_m, if_true, if_false, eq_self, not_true_eq_false, not_false_eq_true, isB_0, isB_1, Bool.false_eq_true, true_and, and_true, false_and, and_false, and_self, Nat.one_ne_zero, Nat.zero_ne_one, reduceIte]
    · have h3 : V (59 + 10 * i + 7) ≤ crk V i f := by omega
      have h5 : crk V i f ≤ 12 := Nat.le_trans hq hl
      simp (disch := first | omega | exact hB _) only [h, h3, ob_s, ob2_s, chk_t, lt_s', litI, n_add, n_mul, n_sub, inb_n, ix_n, n_le, n_lt, n_eq, n_bit, n_m1_lt, n_m1_eq, n_m1_m, n_ne_m, n_m_ne, n_m_lt0, n_0_le_m, if_true, if_false, eq_self, not_true_eq_false, not_false_eq_true, isB_0, isB_1, Bool.false_eq_true, true_and, and_true, false_and, and_false, and_self, Nat.one_ne_zero, Nat.zero_ne_one, reduceIte]
  · have h2 := fst_lo _ _ q hq2
    have h4 : ¬ V (191 + 36 * i + 3 * q) = f := of_decide_eq_false h2
    have h3 : ¬ V (59 + 10 * i + 7) ≤ q := by unfold crk at hq2; omega
    simp only [F_X10_hasCroaked_L2]
    simp (disch := first | omega | exact hB _) only [hR, R_of, R_croaked, h3, h4, ob_s, ob2_s, chk_t, lt_s', litI, n_add, n_mul, n_sub, inb_n, ix_n, n_le, n_lt, n_eq, n_bit, n_m1_lt, n_m1_eq, n_m1_m, n_ne_m, n_m_ne, n_m_lt0, n_0_le_m, if_true, if_false, eq_self, not_true_eq_false, not_false_eq_true, isB_0, isB_1, Bool.false_eq_true, true_and, and_true, false_and, and_false, and_self, Nat.one_ne_zero, Nat.zero_ne_one, reduceIte]
end REF
