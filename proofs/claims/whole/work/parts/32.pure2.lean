/-! ===== PURE: the assembly over the same numbers ===== -/
def MR (M : Mem) (mo : Nat) (V : Nat → Nat) (i : Nat) : Prop :=
  M mo 0 = nI (V (59 + 10 * i)) ∧ M mo 2 = nI (V (59 + 10 * i + 5)) ∧ M mo 3 = nI (V (59 + 10 * i + 1)) ∧ M mo 4 = nI (V (59 + 10 * i + 4)) ∧ M mo 7 = nI (V (59 + 10 * i + 7)) ∧ M mo 9 = nI (V (59 + 10 * i + 2)) ∧ M mo 10 = nI (V (59 + 10 * i + 3)) ∧ M mo 11 = nI (V (59 + 10 * i + 6)) ∧
  (∀ k, k < V (59 + 10 * i + 5) → M (mo + 1) k = nI (V (119 + 12 * i + k))) ∧
  (∀ k, k < V (59 + 10 * i + 7) → M (mo + 2) k = nI (V (191 + 36 * i + 3 * k)) ∧ M (mo + 3) k = nI (stg V i k)) ∧
  ∃ w, w < 4096 ∧ M mo 8 = nI w ∧ ∀ f, f < 12 → (w.testBit f = true ↔ ∃ k, k < V (59 + 10 * i + 7) ∧ V (191 + 36 * i + 3 * k) = f ∧ V (191 + 36 * i + 3 * k + 2) = 1)
def AR (M : Mem) (a : Nat) (V : Nat → Nat) : Prop :=
  M a 0 = nI (V 0) ∧ M a 6 = nI (V 1) ∧ M a 8 = nI (V 2) ∧ M a 10 = nI (V 3) ∧ M a 11 = nI (V 4) ∧
  (∀ f, f < 12 → M (a + 1) f = nI (V (5 + f)) ∧ M (a + 2) f = nI (V (17 + f)) ∧ (f < V 0 → M (a + 3) f = nI (V (29 + f)) - nI 1) ∧ M (a + 4) f = nI (V (41 + f))) ∧
  (∀ p, p < 6 → M (a + 5) p = nI (V (53 + p))) ∧
  (∃ w, w < 4096 ∧ M a 5 = nI w ∧ ∀ f, f < 12 → (w.testBit f = true ↔ V (29 + f) ≠ 0)) ∧
  ∀ i, i < 6 → MR M (a + 6 + 1 + 4 * i) V i
section ARP
variable {M : Mem} {a i : Nat} {V : Nat → Nat}
theorem AR.F (h : AR M a V) : M a 0 = nI (V 0) := h.1
theorem AR.P (h : AR M a V) : M a 6 = nI (V 1) := h.2.1
theorem AR.Mo (h : AR M a V) : M a 8 = nI (V 2) := h.2.2.1
theorem AR.sp (h : AR M a V) : M a 10 = nI (V 3) := h.2.2.2.1
theorem AR.mi (h : AR M a V) : M a 11 = nI (V 4) := h.2.2.2.2.1
theorem AR.fr (h : AR M a V) : ∀ f, f < 12 → M (a + 1) f = nI (V (5 + f)) ∧ M (a + 2) f = nI (V (17 + f)) ∧ (f < V 0 → M (a + 3) f = nI (V (29 + f)) - nI 1) ∧ M (a + 4) f = nI (V (41 + f)) := h.2.2.2.2.2.1
theorem AR.po (h : AR M a V) : ∀ f, f < 12 → M (a + 1) f = nI (V (5 + f)) := fun f hf => (h.fr f hf).1
theorem AR.we (h : AR M a V) : ∀ f, f < 12 → M (a + 2) f = nI (V (17 + f)) := fun f hf => (h.fr f hf).2.1
theorem AR.se (h : AR M a V) (hF : V 0 ≤ 12) : ∀ f, f < V 0 → M (a + 3) f = nI (V (29 + f)) - nI 1 := fun f hf => (h.fr f (by omega)).2.2.1 hf
theorem AR.sk (h : AR M a V) : ∀ f, f < 12 → M (a + 4) f = nI (V (41 + f)) := fun f hf => (h.fr f hf).2.2.2
theorem AR.ca (h : AR M a V) : ∀ p, p < 6 → M (a + 5) p = nI (V (53 + p)) := h.2.2.2.2.2.2.1
theorem AR.ma (h : AR M a V) : ∃ w, w < 4096 ∧ M a 5 = nI w ∧ ∀ f, f < 12 → (w.testBit f = true ↔ V (29 + f) ≠ 0) := h.2.2.2.2.2.2.2.1
theorem AR.mo (h : AR M a V) : ∀ i, i < 6 → MR M (a + 6 + 1 + 4 * i) V i := h.2.2.2.2.2.2.2.2
theorem MR.m0 {mo : Nat} (h : MR M mo V i) : M mo 0 = nI (V (59 + 10 * i)) := h.1
theorem MR.ln {mo : Nat} (h : MR M mo V i) : M mo 2 = nI (V (59 + 10 * i + 5)) := h.2.1
theorem MR.cl {mo : Nat} (h : MR M mo V i) : M mo 3 = nI (V (59 + 10 * i + 1)) := h.2.2.1
theorem MR.su {mo : Nat} (h : MR M mo V i) : M mo 4 = nI (V (59 + 10 * i + 4)) := h.2.2.2.1
theorem MR.cn {mo : Nat} (h : MR M mo V i) : M mo 7 = nI (V (59 + 10 * i + 7)) := h.2.2.2.2.1
theorem MR.de {mo : Nat} (h : MR M mo V i) : M mo 9 = nI (V (59 + 10 * i + 2)) := h.2.2.2.2.2.1
theorem MR.ad {mo : Nat} (h : MR M mo V i) : M mo 10 = nI (V (59 + 10 * i + 3)) := h.2.2.2.2.2.2.1
theorem MR.so {mo : Nat} (h : MR M mo V i) : M mo 11 = nI (V (59 + 10 * i + 6)) := h.2.2.2.2.2.2.2.1
theorem MR.le {mo : Nat} (h : MR M mo V i) : ∀ k, k < V (59 + 10 * i + 5) → M (mo + 1) k = nI (V (119 + 12 * i + k)) := h.2.2.2.2.2.2.2.2.1
theorem MR.cf {mo : Nat} (h : MR M mo V i) : ∀ k, k < V (59 + 10 * i + 7) → M (mo + 2) k = nI (V (191 + 36 * i + 3 * k)) := fun k hk => (h.2.2.2.2.2.2.2.2.2.1 k hk).1
theorem MR.cs {mo : Nat} (h : MR M mo V i) : ∀ k, k < V (59 + 10 * i + 7) → M (mo + 3) k = nI (stg V i k) := fun k hk => (h.2.2.2.2.2.2.2.2.2.1 k hk).2
theorem MR.fv {mo : Nat} (h : MR M mo V i) : ∃ w, w < 4096 ∧ M mo 8 = nI w ∧ ∀ f, f < 12 → (w.testBit f = true ↔ ∃ k, k < V (59 + 10 * i + 7) ∧ V (191 + 36 * i + 3 * k) = f ∧ V (191 + 36 * i + 3 * k + 2) = 1) := h.2.2.2.2.2.2.2.2.2.2
end ARP
/-! counting bits -/
def bcN : Nat → Nat → Nat
  | 0, _ => 0
  | n + 1, w => bcN n w + (w.testBit n).toNat
theorem bc_all : ∀ h, h < 64 → ∀ l, l < 64 → F_J6_bitCount_0f7a4 0 (nI (64 * h + l)) (fun _ _ => 0) = some (nI (bcN 12 (64 * h + l))) := by decide +kernel
theorem C_bitCount {n w : Nat} {M : Mem} (h : w < 4096) : F_J6_bitCount_0f7a4 n (nI w) M = some (nI (bcN 12 w)) := by
  have e := bc_all (w / 64) (by omega) (w % 64) (by omega)
  rw [Nat.div_add_mod] at e
  exact e
theorem bcN_sm (w : Nat) (F : Nat) : bcN F w = sm (fun f => (w.testBit f).toNat) F := by
  induction F with
  | zero => rfl
  | succ F ih => rw [bcN, sm_s, ih]
/-- the set of the frogs below m with c -/
def setN (c : Nat → Bool) : Nat → Nat
  | 0 => 0
  | n + 1 => if c n = true then setN c n ||| 2 ^ n else setN c n
theorem setN_lt (c : Nat → Bool) : ∀ n, setN c n < 2 ^ n
  | 0 => Nat.one_pos
  | n + 1 => by
    have h := setN_lt c n
    have h2 : (2 : Nat) ^ n < 2 ^ (n + 1) := Nat.pow_lt_pow_right (by decide) (by omega)
    unfold setN
    split
    · exact Nat.or_lt_two_pow (by omega) h2
    · omega
theorem setN_bit (c : Nat → Bool) : ∀ n f, (setN c n).testBit f = (decide (f < n) && c f)
  | 0, f => by simp [setN]
  | n + 1, f => by
    have h := setN_bit c n f
    unfold setN
    by_cases e : c n = true
    · rw [if_pos e, tb_or, h]
      by_cases e2 : f = n
      · subst e2; simp [e]
      · have : decide (f < n + 1) = decide (f < n) := by by_cases q : f < n <;> simp [q] <;> omega
        simp [e2, this]
    · rw [if_neg e, h]
      by_cases e2 : f = n
      · subst e2; simp [e]
      · have : decide (f < n + 1) = decide (f < n) := by by_cases q : f < n <;> simp [q] <;> omega
        rw [this]
theorem lt4096 {c : Nat → Bool} {F : Nat} (hF : F ≤ 12) : setN c F < 4096 := Nat.lt_of_lt_of_le (setN_lt c F) (Nat.pow_le_pow_right (n := 2) (by decide) hF)
theorem sm_ext {g : Nat → Nat} {F : Nat} (hz : ∀ f, F ≤ f → g f = 0) : ∀ d, sm g (F + d) = sm g F
  | 0 => rfl
  | d + 1 => by rw [← Nat.add_assoc, sm_s, sm_ext hz d, hz (F + d) (by omega), Nat.add_zero]
theorem bc_set {c : Nat → Bool} {F : Nat} (hF : F ≤ 12) : bcN 12 (setN c F) = sm (fun f => if c f = true then 1 else 0) F := by
  rw [bcN_sm]
  have e : (12 : Nat) = F + (12 - F) := by omega
  rw [e, sm_ext (F := F) (fun f hf => by simp only [setN_bit]; rw [decide_eq_false (by omega)]; rfl)]
  refine sm_congr (fun f hf => ?_)
  simp only [setN_bit]
  rw [decide_eq_true hf]
  cases c f <;> rfl
section CLS
variable {n c a : Nat} {M : Mem} {V : Nat → Nat}
theorem C_hasFrog_t (hA : AR M a V) (hB : ∀ k, V k < 2147483648) {f : Nat} (hf : f < V 0) : F_X2_hasFrog n a (nI f) M = some (nI 1) := by
  have h0 := hB 0
  have hn : ¬ V 0 ≤ f := by omega
  unfold F_X2_hasFrog
  simp (disch := first | omega | exact hB _) only [hA.F, Nat.not_lt_zero, hn, ob_s, ob2_s, chk_t, lt_s', litI, n_add, n_mul, n_sub, inb_n, ix_n, n_le, n_lt, n_eq, n_bit, n_m1_lt, n_m1_eq, n_m1_m, n_ne_m, n_m_ne, n_m_lt0, n_0_le_m, if_true, if_false, eq_self, not_true_eq_false, not_false_eq_true, isB_0, isB_1, Bool.false_eq_true, true_and, and_true, false_and, and_false, and_self, Nat.one_ne_zero, Nat.zero_ne_one, reduceIte]
theorem C_hasFrog_f (hA : AR M a V) (hB : ∀ k, V k < 2147483648) {x : Int32} (h : ¬ isL x (V 0)) : F_X2_hasFrog n a x M = some (nI 0) := by
  unfold F_X2_hasFrog
  rcases not_isL h with hx | ⟨f, hf, hv, rfl⟩
  · simp (disch := first | omega | exact hB _) only [hA.F, hx, ob_s, ob2_s, chk_t, lt_s', litI, n_add, n_mul, n_sub, inb_n, ix_n, n_le, n_lt, n_eq, n_bit, n_m1_lt, n_m1_eq, n_m1_m, n_ne_m, n_m_ne, n_m_lt0, n_0_le_m, if_true, if_false, eq_self, not_true_eq_false, not_false_eq_true, isB_0, isB_1, Bool.false_eq_true, true_and, and_true, false_and, and_false, and_self, Nat.one_ne_zero, Nat.zero_ne_one, reduceIte]
  · simp (disch := first | omega | exact hB _) only [hA.F, Nat.not_lt_zero, hv, ob_s, ob2_s, chk_t, lt_s', litI, n_add, n_mul, n_sub, inb_n, ix_n, n_le, n_lt, n_eq, n_bit, n_m1_lt, n_m1_eq, n_m1_m, n_ne_m, n_m_ne, n_m_lt0, n_0_le_m, if_true, if_false, eq_self, not_true_eq_false, not_false_eq_true, isB_0, isB_1, Bool.false_eq_true, true_and, and_true, false_and, and_false, and_self, Nat.one_ne_zero, Nat.zero_ne_one, reduceIte]
theorem C_hasPad_t (hA : AR M a V) (hB : ∀ k, V k < 2147483648) {f : Nat} (hf : f < V 1) : F_X2_hasPad n a (nI f) M = some (nI 1) := by
  have h0 := hB 1
  have hn : ¬ V 1 ≤ f := by omega
  unfold F_X2_hasPad
  simp (disch := first | omega | exact hB _) only [hA.P, Nat.not_lt_zero, hn, ob_s, ob2_s, chk_t, lt_s', litI, n_add, n_mul, n_sub, inb_n, ix_n, n_le, n_lt, n_eq, n_bit, n_m1_lt, n_m1_eq, n_m1_m, n_ne_m, n_m_ne, n_m_lt0, n_0_le_m, if_true, if_false, eq_self, not_true_eq_false, not_false_eq_true, isB_0, isB_1, Bool.false_eq_true, true_and, and_true, false_and, and_false, and_self, Nat.one_ne_zero, Nat.zero_ne_one, reduceIte]
theorem C_hasPad_f (hA : AR M a V) (hB : ∀ k, V k < 2147483648) {x : Int32} (h : ¬ isL x (V 1)) : F_X2_hasPad n a x M = some (nI 0) := by
  unfold F_X2_hasPad
  rcases not_isL h with hx | ⟨f, hf, hv, rfl⟩
  · simp (disch := first | omega | exact hB _) only [hA.P, hx, ob_s, ob2_s, chk_t, lt_s', litI, n_add, n_mul, n_sub, inb_n, ix_n, n_le, n_lt, n_eq, n_bit, n_m1_lt, n_m1_eq, n_m1_m, n_ne_m, n_m_ne, n_m_lt0, n_0_le_m, if_true, if_false, eq_self, not_true_eq_false, not_false_eq_true, isB_0, isB_1, Bool.false_eq_true, true_and, and_true, false_and, and_false, and_self, Nat.one_ne_zero, Nat.zero_ne_one, reduceIte]
  · simp (disch := first | omega | exact hB _) only [hA.P, Nat.not_lt_zero, hv, ob_s, ob2_s, chk_t, lt_s', litI, n_add, n_mul, n_sub, inb_n, ix_n, n_le, n_lt, n_eq, n_bit, n_m1_lt, n_m1_eq, n_m1_m, n_ne_m, n_m_ne, n_m_lt0, n_0_le_m, if_true, if_false, eq_self, not_true_eq_false, not_false_eq_true, isB_0, isB_1, Bool.false_eq_true, true_and, and_true, false_and, and_false, and_self, Nat.one_ne_zero, Nat.zero_ne_one, reduceIte]
theorem C_hasMotion_t (hA : AR M a V) (hB : ∀ k, V k < 2147483648) {f : Nat} (hf : f < V 2) : F_X2_hasMotion n a (nI f) M = some (nI 1) := by
  have h0 := hB 2
  have hn : ¬ V 2 ≤ f := by omega
  unfold F_X2_hasMotion
  simp (disch := first | omega | exact hB _) only [hA.Mo, Nat.not_lt_zero, hn, ob_s, ob2_s, chk_t, lt_s', litI, n_add, n_mul, n_sub, inb_n, ix_n, n_le, n_lt, n_eq, n_bit, n_m1_lt, n_m1_eq, n_m1_m, n_ne_m, n_m_ne, n_m_lt0, n_0_le_m, if_true, if_false, eq_self, not_true_eq_false, not_false_eq_true, isB_0, isB_1, Bool.false_eq_true, true_and, and_true, false_and, and_false, and_self, Nat.one_ne_zero, Nat.zero_ne_one, reduceIte]
theorem C_hasMotion_f (hA : AR M a V) (hB : ∀ k, V k < 2147483648) {x : Int32} (h : ¬ isL x (V 2)) : F_X2_hasMotion n a x M = some (nI 0) := by
  unfold F_X2_hasMotion
  rcases not_isL h with hx | ⟨f, hf, hv, rfl⟩
  · simp (disch := first | omega | exact hB _) only [hA.Mo, hx, ob_s, ob2_s, chk_t, lt_s', litI, n_add, n_mul, n_sub, inb_n, ix_n, n_le, n_lt, n_eq, n_bit, n_m1_lt, n_m1_eq, n_m1_m, n_ne_m, n_m_ne, n_m_lt0, n_0_le_m, if_true, if_false, eq_self, not_true_eq_false, not_false_eq_true, isB_0, isB_1, Bool.false_eq_true, true_and, and_true, false_and, and_false, and_self, Nat.one_ne_zero, Nat.zero_ne_one, reduceIte]
  · simp (disch := first | omega | exact hB _) only [hA.Mo, Nat.not_lt_zero, hv, ob_s, ob2_s, chk_t, lt_s', litI, n_add, n_mul, n_sub, inb_n, ix_n, n_le, n_lt, n_eq, n_bit, n_m1_lt, n_m1_eq, n_m1_m, n_ne_m, n_m_ne, n_m_lt0, n_0_le_m, if_true, if_false, eq_self, not_true_eq_false, not_false_eq_true, isB_0, isB_1, Bool.false_eq_true, true_and, and_true, false_and, and_false, and_self, Nat.one_ne_zero, Nat.zero_ne_one, reduceIte]
theorem C_pair_t (hA : AR M a V) (hB : ∀ k, V k < 2147483648) {i f : Nat} (hi : i < V 2) (hf : f < V 0) : F_X2_refusalOfPair n a (nI i) (nI f) M = some 0 := by
  unfold F_X2_refusalOfPair
  simp (disch := first | omega | exact hB _) only [C_hasMotion_t hA hB hi, C_hasFrog_t hA hB hf, Nat.one_ne_zero, ob_s, ob2_s, chk_t, lt_s', litI, n_add, n_mul, n_sub, inb_n, ix_n, n_le, n_lt, n_eq, n_bit, n_m1_lt, n_m1_eq, n_m1_m, n_ne_m, n_m_ne, n_m_lt0, n_0_le_m, if_true, if_false, eq_self, not_true_eq_false, not_false_eq_true, isB_0, isB_1, Bool.false_eq_true, true_and, and_true, false_and, and_false, and_self, Nat.one_ne_zero, Nat.zero_ne_one, reduceIte]
theorem C_pair_f (hA : AR M a V) (hB : ∀ k, V k < 2147483648) {x y : Int32} (h : ¬ (isL x (V 2) ∧ isL y (V 0))) : ∃ e, F_X2_refusalOfPair n a x y M = some e ∧ (e = 2 ∨ e = 4) := by
  unfold F_X2_refusalOfPair
  by_cases h1 : isL x (V 2)
  · have h2 : ¬ isL y (V 0) := fun q => h ⟨h1, q⟩
    obtain ⟨i, hi, rfl⟩ := h1
    refine ⟨2, ?_, .inl rfl⟩
    simp (disch := first | omega | exact hB _) only [C_hasMotion_t hA hB hi, C_hasFrog_f hA hB h2, Nat.one_ne_zero, ob_s, ob2_s, chk_t, lt_s', litI, n_add, n_mul, n_sub, inb_n, ix_n, n_le, n_lt, n_eq, n_bit, n_m1_lt, n_m1_eq, n_m1_m, n_ne_m, n_m_ne, n_m_lt0, n_0_le_m, if_true, if_false, eq_self, not_true_eq_false, not_false_eq_true, isB_0, isB_1, Bool.false_eq_true, true_and, and_true, false_and, and_false, and_self, Nat.one_ne_zero, Nat.zero_ne_one, reduceIte]
  · refine ⟨4, ?_, .inr rfl⟩
    simp (disch := first | omega | exact hB _) only [C_hasMotion_f hA hB h1, ob_s, ob2_s, chk_t, lt_s', litI, n_add, n_mul, n_sub, inb_n, ix_n, n_le, n_lt, n_eq, n_bit, n_m1_lt, n_m1_eq, n_m1_m, n_ne_m, n_m_ne, n_m_lt0, n_0_le_m, if_true, if_false, eq_self, not_true_eq_false, not_false_eq_true, isB_0, isB_1, Bool.false_eq_true, true_and, and_true, false_and, and_false, and_self, Nat.one_ne_zero, Nat.zero_ne_one, reduceIte]
theorem C_sittersOf (hA : AR M a V) (hB : ∀ k, V k < 2147483648) (hF : V 0 ≤ 12) (hn : 13 ≤ n) {p : Nat} (hp : p < 65536) : F_X2_sittersOf n a (nI p) M = some (nI (setN (fun f => decide (V (29 + f) = p + 1)) (V 0))) := by
  have hb : ∀ f, f ≤ 12 → setN (fun f => decide (V (29 + f) = p + 1)) f < 4096 := fun f hf => lt4096 hf
  unfold F_X2_sittersOf
  refine loopS (fun k f => F_X2_sittersOf_L4 n a M k (nI p) (nI (setN (fun f => decide (V (29 + f) = p + 1)) f)) (nI f)) (V 0) _ (fun k => ?_) (fun k f hf => ?_) n (by omega)
  · simp only [F_X2_sittersOf_L4]
    simp (disch := first | omega | exact hB _) only [hA.F, Nat.le_refl, ob_s, ob2_s, chk_t, lt_s', litI, n_add, n_mul, n_sub, inb_n, ix_n, n_le, n_lt, n_eq, n_bit, n_m1_lt, n_m1_eq, n_m1_m, n_ne_m, n_m_ne, n_m_lt0, n_0_le_m, if_true, if_false, eq_self, not_true_eq_false, not_false_eq_true, isB_0, isB_1, Bool.false_eq_true, true_and, and_true, false_and, and_false, and_self, Nat.one_ne_zero, Nat.zero_ne_one, reduceIte]
  · have h : ¬ V 0 ≤ f := by omega
    have hb1 := hb f (by omega)
    have h2 : (2 : Nat) ^ f < 4096 := Nat.pow_lt_pow_right (a := 2) (n := 12) (by decide) (by omega)
    simp only [F_X2_sittersOf_L4]
    simp (disch := first | omega | exact hB _) only [hA.F, h, hA.se hF, n_shl, n_or, setN, ob_s, ob2_s, chk_t, lt_s', litI, n_add, n_mul, n_sub, inb_n, ix_n, n_le, n_lt, n_eq, n_bit, n_m1_lt, n_m1_eq, n_m1_m, n_ne_m, n_m_ne, n_m_lt0, n_0_le_m, if_true, if_false, eq_self, not_true_eq_false, not_false_eq_true, isB_0, isB_1, Bool.false_eq_true, true_and, and_true, false_and, and_false, and_self, Nat.one_ne_zero, Nat.zero_ne_one, reduceIte]
    by_cases e : V (29 + f) = p + 1
    · simp (disch := first | omega | exact hB _) only [e, decide_true, ob_s, ob2_s, chk_t, lt_s', litI, n_add, n_mul, n_sub, inb_n, ix_n, n_le, n_lt, n_eq, n_bit, n_m1_lt, n_m1_eq, n_m1_m, n_ne_m, n_m_ne, n_m_lt0, n_0_le_m, if_true, if_false, eq_self, not_true_eq_false, not_false_eq_true, isB_0, isB_1, Bool.false_eq_true, true_and, and_true, false_and, and_false, and_self, Nat.one_ne_zero, Nat.zero_ne_one, reduceIte]
    · simp (disch := first | omega | exact hB _) only [e, decide_false, ob_s, ob2_s, chk_t, lt_s', litI, n_add, n_mul, n_sub, inb_n, ix_n, n_le, n_lt, n_eq, n_bit, n_m1_lt, n_m1_eq, n_m1_m, n_ne_m, n_m_ne, n_m_lt0, n_0_le_m, if_true, if_false, eq_self, not_true_eq_false, not_false_eq_true, isB_0, isB_1, Bool.false_eq_true, true_and, and_true, false_and, and_false, and_self, Nat.one_ne_zero, Nat.zero_ne_one, reduceIte]
theorem C_countOn (hA : AR M a V) (hB : ∀ k, V k < 2147483648) (hF : V 0 ≤ 12) (hn : 13 ≤ n) {p : Nat} (hp : p < 65536) : F_X2_countOn n a (nI p) M = some (nI (onN V p)) := by
  unfold F_X2_countOn
  simp (disch := first | omega | exact hB _) only [C_sittersOf hA hB hF hn hp, C_bitCount (lt4096 hF), bc_set hF, decide_eq_true_eq, ob_s, ob2_s, chk_t, lt_s', litI, n_add, n_mul, n_sub, inb_n, ix_n, n_le, n_lt, n_eq, n_bit, n_m1_lt, n_m1_eq, n_m1_m, n_ne_m, n_m_ne, n_m_lt0, n_0_le_m, if_true, if_false, eq_self, not_true_eq_false, not_false_eq_true, isB_0, isB_1, Bool.false_eq_true, true_and, and_true, false_and, and_false, and_self, Nat.one_ne_zero, Nat.zero_ne_one, reduceIte]
  rfl
theorem C_sits (hA : AR M a V) (hB : ∀ k, V k < 2147483648) (hF : V 0 ≤ 12) {f : Nat} (hf : f < V 0) : F_X2_sits n a (nI f) M = some (if V (29 + f) = 0 then nI 0 else nI 1) := by
  obtain ⟨w, w1, w2, w3⟩ := hA.ma
  have h3 := w3 f (by omega)
  unfold F_X2_sits
  by_cases e : w.testBit f = true
  · have e2 : ¬ V (29 + f) = 0 := h3.1 e
    simp (disch := first | omega | exact hB _) only [w2, bool_0, e, e2, Bool.true_eq_false, ob_s, ob2_s, chk_t, lt_s', litI, n_add, n_mul, n_sub, inb_n, ix_n, n_le, n_lt, n_eq, n_bit, n_m1_lt, n_m1_eq, n_m1_m, n_ne_m, n_m_ne, n_m_lt0, n_0_le_m, if_true, if_false, eq_self, not_true_eq_false, not_false_eq_true, isB_0, isB_1, Bool.false_eq_true, true_and, and_true, false_and, and_false, and_self, Nat.one_ne_zero, Nat.zero_ne_one, reduceIte]
  · have e2 : V (29 + f) = 0 := Decidable.byContradiction (fun z => e (h3.2 z))
    simp (disch := first | omega | exact hB _) only [w2, bool_0, e, e2, ob_s, ob2_s, chk_t, lt_s', litI, n_add, n_mul, n_sub, inb_n, ix_n, n_le, n_lt, n_eq, n_bit, n_m1_lt, n_m1_eq, n_m1_m, n_ne_m, n_m_ne, n_m_lt0, n_0_le_m, if_true, if_false, eq_self, not_true_eq_false, not_false_eq_true, isB_0, isB_1, Bool.false_eq_true, true_and, and_true, false_and, and_false, and_self, Nat.one_ne_zero, Nat.zero_ne_one, reduceIte]
theorem C_weightOfSet (hA : AR M a V) (hB : ∀ k, V k < 2147483648) (hF : V 0 ≤ 12) (hn : 13 ≤ n) {w : Nat} (hw : w < 4096) : F_X2_weightOfSet n a (nI w) M = some (nI (sm (fun f => if w.testBit f = true then V (17 + f) else 0) (V 0))) := by
  unfold F_X2_weightOfSet
  refine loopS (fun k f => F_X2_weightOfSet_L4 n a M k (nI w) (nI (sm (fun f => if w.testBit f = true then V (17 + f) else 0) f)) (nI f)) (V 0) _ (fun k => ?_) (fun k f hf => ?_) n (by omega)
  · simp only [F_X2_weightOfSet_L4]
    simp (disch := first | omega | exact hB _) only [hA.F, Nat.le_refl, ob_s, ob2_s, chk_t, lt_s', litI, n_add, n_mul, n_sub, inb_n, ix_n, n_le, n_lt, n_eq, n_bit, n_m1_lt, n_m1_eq, n_m1_m, n_ne_m, n_m_ne, n_m_lt0, n_0_le_m, if_true, if_false, eq_self, not_true_eq_false, not_false_eq_true, isB_0, isB_1, Bool.false_eq_true, true_and, and_true, false_and, and_false, and_self, Nat.one_ne_zero, Nat.zero_ne_one, reduceIte]
  · have h : ¬ V 0 ≤ f := by omega
    simp only [F_X2_weightOfSet_L4]
    simp (disch := first | omega | exact hB _) only [hA.F, h, hA.we, bool_0, sm_s, ob_s, ob2_s, chk_t, lt_s', litI, n_add, n_mul, n_sub, inb_n, ix_n, n_le, n_lt, n_eq, n_bit, n_m1_lt, n_m1_eq, n_m1_m, n_ne_m, n_m_ne, n_m_lt0, n_0_le_m, if_true, if_false, eq_self, not_true_eq_false, not_false_eq_true, isB_0, isB_1, Bool.false_eq_true, true_and, and_true, false_and, and_false, and_self, Nat.one_ne_zero, Nat.zero_ne_one, reduceIte]
    by_cases e : w.testBit f = true
    · simp (disch := first | omega | exact hB _) only [e, Bool.true_eq_false, ob_s, ob2_s, chk_t, lt_s', litI, n_add, n_mul, n_sub, inb_n, ix_n, n_le, n_lt, n_eq, n_bit, n_m1_lt, n_m1_eq, n_m1_m, n_ne_m, n_m_ne, n_m_lt0, n_0_le_m, if_true, if_false, eq_self, not_true_eq_false, not_false_eq_true, isB_0, isB_1, Bool.false_eq_true, true_and, and_true, false_and, and_false, and_self, Nat.one_ne_zero, Nat.zero_ne_one, reduceIte]
    · simp (disch := first | omega | exact hB _) only [e, Nat.add_zero, ob_s, ob2_s, chk_t, lt_s', litI, n_add, n_mul, n_sub, inb_n, ix_n, n_le, n_lt, n_eq, n_bit, n_m1_lt, n_m1_eq, n_m1_m, n_ne_m, n_m_ne, n_m_lt0, n_0_le_m, if_true, if_false, eq_self, not_true_eq_false, not_false_eq_true, isB_0, isB_1, Bool.false_eq_true, true_and, and_true, false_and, and_false, and_self, Nat.one_ne_zero, Nat.zero_ne_one, reduceIte]
theorem C_entitles (hA : AR M a V) (W : WF c V) {i f : Nat} (hi : i < 6) (hf : f < 12) : F_X2_entitles n a (nI i) (nI f) M = some (if enT V i f = true then nI 1 else nI 0) := by
  have hB := W.b
  have h1 := (W.fr hf).1
  unfold F_X2_entitles enT
  simp (disch := first | omega | exact hB _) only [(hA.mo i hi).m0, hA.po, bool_0, ob_s, ob2_s, chk_t, lt_s', litI, n_add, n_mul, n_sub, inb_n, ix_n, n_le, n_lt, n_eq, n_bit, n_m1_lt, n_m1_eq, n_m1_m, n_ne_m, n_m_ne, n_m_lt0, n_0_le_m, if_true, if_false, eq_self, not_true_eq_false, not_false_eq_true, isB_0, isB_1, Bool.false_eq_true, true_and, and_true, false_and, and_false, and_self, Nat.one_ne_zero, Nat.zero_ne_one, reduceIte]
  by_cases e : (V (59 + 10 * i)).testBit (V (5 + f)) = true
  · simp (disch := first | omega | exact hB _) only [e, Bool.true_eq_false, ob_s, ob2_s, chk_t, lt_s', litI, n_add, n_mul, n_sub, inb_n, ix_n, n_le, n_lt, n_eq, n_bit, n_m1_lt, n_m1_eq, n_m1_m, n_ne_m, n_m_ne, n_m_lt0, n_0_le_m, if_true, if_false, eq_self, not_true_eq_false, not_false_eq_true, isB_0, isB_1, Bool.false_eq_true, true_and, and_true, false_and, and_false, and_self, Nat.one_ne_zero, Nat.zero_ne_one, reduceIte]
  · simp (disch := first | omega | exact hB _) only [e, ob_s, ob2_s, chk_t, lt_s', litI, n_add, n_mul, n_sub, inb_n, ix_n, n_le, n_lt, n_eq, n_bit, n_m1_lt, n_m1_eq, n_m1_m, n_ne_m, n_m_ne, n_m_lt0, n_0_le_m, if_true, if_false, eq_self, not_true_eq_false, not_false_eq_true, isB_0, isB_1, Bool.false_eq_true, true_and, and_true, false_and, and_false, and_self, Nat.one_ne_zero, Nat.zero_ne_one, reduceIte]
theorem C_entitledTo (hA : AR M a V) (W : WF c V) (hn : 13 ≤ n) {i : Nat} (hi : i < 6) : F_X2_entitledTo n a (nI i) M = some (nI (setN (enT V i) (V 0))) := by
  have hB := W.b
  have hF := W.F
  have hb : ∀ f, f ≤ 12 → setN (enT V i) f < 4096 := fun f hf => lt4096 hf
  unfold F_X2_entitledTo
  refine loopS (fun k f => F_X2_entitledTo_L4 n a M k (nI i) (nI (setN (enT V i) f)) (nI f)) (V 0) _ (fun k => ?_) (fun k f hf => ?_) n (by omega)
  · simp only [F_X2_entitledTo_L4]
    simp (disch := first | omega | exact hB _) only [hA.F, Nat.le_refl, ob_s, ob2_s, chk_t, lt_s', litI, n_add, n_mul, n_sub, inb_n, ix_n, n_le, n_lt, n_eq, n_bit, n_m1_lt, n_m1_eq, n_m1_m, n_ne_m, n_m_ne, n_m_lt0, n_0_le_m, if_true, if_false, eq_self, not_true_eq_false, not_false_eq_true, isB_0, isB_1, Bool.false_eq_true, true_and, and_true, false_and, and_false, and_self, Nat.one_ne_zero, Nat.zero_ne_one, reduceIte]
  · have h : ¬ V 0 ≤ f := by omega
    have hb1 := hb f (by omega)
    have h2 : (2 : Nat) ^ f < 4096 := Nat.pow_lt_pow_right (a := 2) (n := 12) (by decide) (by omega)
    simp only [F_X2_entitledTo_L4]
    simp (disch := first | omega | exact hB _) only [hA.F, h, C_entitles hA W hi, n_shl, n_or, setN, ob_s, ob2_s, chk_t, lt_s', litI, n_add, n_mul, n_sub, inb_n, ix_n, n_le, n_lt, n_eq, n_bit, n_m1_lt, n_m1_eq, n_m1_m, n_ne_m, n_m_ne, n_m_lt0, n_0_le_m, if_true, if_false, eq_self, not_true_eq_false, not_false_eq_true, isB_0, isB_1, Bool.false_eq_true, true_and, and_true, false_and, and_false, and_self, Nat.one_ne_zero, Nat.zero_ne_one, reduceIte]
    by_cases e : enT V i f = true
    · simp (disch := first | omega | exact hB _) only [e, n10, ob_s, ob2_s, chk_t, lt_s', litI, n_add, n_mul, n_sub, inb_n, ix_n, n_le, n_lt, n_eq, n_bit, n_m1_lt, n_m1_eq, n_m1_m, n_ne_m, n_m_ne, n_m_lt0, n_0_le_m, if_true, if_false, eq_self, not_true_eq_false, not_false_eq_true, isB_0, isB_1, Bool.false_eq_true, true_and, and_true, false_and, and_false, and_self, Nat.one_ne_zero, Nat.zero_ne_one, reduceIte]
    · simp (disch := first | omega | exact hB _) only [e, ob_s, ob2_s, chk_t, lt_s', litI, n_add, n_mul, n_sub, inb_n, ix_n, n_le, n_lt, n_eq, n_bit, n_m1_lt, n_m1_eq, n_m1_m, n_ne_m, n_m_ne, n_m_lt0, n_0_le_m, if_true, if_false, eq_self, not_true_eq_false, not_false_eq_true, isB_0, isB_1, Bool.false_eq_true, true_and, and_true, false_and, and_false, and_self, Nat.one_ne_zero, Nat.zero_ne_one, reduceIte]
theorem C_entW (hA : AR M a V) (W : WF c V) (hn : 13 ≤ n) {i : Nat} (hi : i < 6) : F_X2_weightOfSet n a (nI (setN (enT V i) (V 0))) M = some (nI (entW V i)) := by
  rw [C_weightOfSet hA W.b W.F hn (lt4096 W.F)]
  unfold entW
  rw [sm_congr (fun f hf => by rw [setN_bit, decide_eq_true hf, Bool.true_and])]
theorem C_placeOf {i f : Nat} (hM : MR M a V i) (W : WF c V) (hn : 13 ≤ n) (hi : i < 6) (hf : f < 65536) : F_X6_placeOf n a (nI f) M = some (if plc V i f < V (59 + 10 * i + 5) then nI (plc V i f) else -nI 1) := by
  have hB := W.b
  have hl := W.li hi
  have hq := fst_le (fun k => decide (V (119 + 12 * i + k) = f)) (V (59 + 10 * i + 5))
  unfold F_X6_placeOf
  refine loopS (fun k q => F_X6_placeOf_L2 n a M k (nI f) (nI q)) (plc V i f) _ (fun k => ?_) (fun k q hq2 => ?_) n (by unfold plc; omega)
  · simp only [F_X6_placeOf_L2]
    by_cases h : plc V i f < V (59 + 10 * i + 5)
    · have h2 := fst_at _ _ h
      have h3 : ¬ V (59 + 10 * i + 5) ≤ plc V i f := by omega
      have h4 : V (119 + 12 * i + plc V i f) = f := of_decide_eq_true h2
      simp (disch := first | omega | exact hB _) only [hM.ln, hM.le, h, h3, h4, ob_s, ob2_s, chk_t, lt_s', litI, n_add, n_mul, n_sub, inb_n, ix_n, n_le, n_lt, n_eq, n_bit, n_m1_lt, n_m1_eq, n_m1_m, n_ne_m, n_m_ne, n_m_lt0, n_0_le_m, if_true, if_false, eq_self, not_true_eq_false, not_false_eq_true, isB_0, isB_1, Bool.false_eq_true, true_and, and_true, false_and, and_false, and_self, Nat.one_ne_zero, Nat.zero_ne_one, reduceIte]
    · have h3 : V (59 + 10 * i + 5) ≤ plc V i f := by omega
      have h5 : plc V i f ≤ 12 := Nat.le_trans hq hl
      simp (disch := first | omega | exact hB _) only [hM.ln, h, h3, ob_s, ob2_s, chk_t, lt_s', litI, n_add, n_mul, n_sub, inb_n, ix_n, n_le, n_lt, n_eq, n_bit, n_m1_lt, n_m1_eq, n_m1_m, n_ne_m, n_m_ne, n_m_lt0, n_0_le_m, if_true, if_false, eq_self, not_true_eq_false, not_false_eq_true, isB_0, isB_1, Bool.false_eq_true, true_and, and_true, false_and, and_false, and_self, Nat.one_ne_zero, Nat.zero_ne_one, reduceIte]
  · have h2 := fst_lo _ _ q hq2
    have h4 : ¬ V (119 + 12 * i + q) = f := of_decide_eq_false h2
    have h5 : q < V (59 + 10 * i + 5) := by unfold plc at hq2; omega
    have h3 : ¬ V (59 + 10 * i + 5) ≤ q := by omega
    simp only [F_X6_placeOf_L2]
    simp (disch := first | omega | exact hB _) only [hM.ln, hM.le, h3, h4, ob_s, ob2_s, chk_t, lt_s', litI, n_add, n_mul, n_sub, inb_n, ix_n, n_le, n_lt, n_eq, n_bit, n_m1_lt, n_m1_eq, n_m1_m, n_ne_m, n_m_ne, n_m_lt0, n_0_le_m, if_true, if_false, eq_self, not_true_eq_false, not_false_eq_true, isB_0, isB_1, Bool.false_eq_true, true_and, and_true, false_and, and_false, and_self, Nat.one_ne_zero, Nat.zero_ne_one, reduceIte]
theorem C_hasCroakOf {i f : Nat} (hM : MR M a V i) (W : WF c V) (hn : 13 ≤ n) (hi : i < 6) (hf : f < 65536) : F_X6_hasCroakOf n a (nI f) M = some (if crk V i f < V (59 + 10 * i + 7) then nI 1 else nI 0) := by
  have hB := W.b
  have hl := W.ci hi
  have hq := fst_le (fun k => decide (V (191 + 36 * i + 3 * k) = f)) (V (59 + 10 * i + 7))
  unfold F_X6_hasCroakOf
  refine loopS (fun k q => F_X6_hasCroakOf_L2 n a M k (nI f) (nI q)) (crk V i f) _ (fun k => ?_) (fun k q hq2 => ?_) n (by unfold crk; omega)
  · simp only [F_X6_hasCroakOf_L2]
    by_cases h : crk V i f < V (59 + 10 * i + 7)
    · have h2 := fst_at _ _ h
      have h3 : ¬ V (59 + 10 * i + 7) ≤ crk V i f := by omega
      have h4 : V (191 + 36 * i + 3 * crk V i f) = f := of_decide_eq_true h2
      simp (disch := first | omega | exact hB _) only [hM.cn, hM.cf, h, h3, h4, ob_s, ob2_s, chk_t, lt_s', litI, n_add, n_mul, n_sub, inb_n, ix_n, n_le, n_lt, n_eq, n_bit, n_m1_lt, n_m1_eq, n_m1_m, n_ne_m, n_m_ne, n_m_lt0, n_0_le_m, if_true, if_false, eq_self, not_true_eq_false, not_false_eq_true, isB_0, isB_1, Bool.false_eq_true, true_and, and_true, false_and, and_false, and_self, Nat.one_ne_zero, Nat.zero_ne_one, reduceIte]
    · have h3 : V (59 + 10 * i + 7) ≤ crk V i f := by omega
      have h5 : crk V i f ≤ 12 := Nat.le_trans hq hl
      simp (disch := first | omega | exact hB _) only [hM.cn, h, h3, ob_s, ob2_s, chk_t, lt_s', litI, n_add, n_mul, n_sub, inb_n, ix_n, n_le, n_lt, n_eq, n_bit, n_m1_lt, n_m1_eq, n_m1_m, n_ne_m, n_m_ne, n_m_lt0, n_0_le_m, if_true, if_false, eq_self, not_true_eq_false, not_false_eq_true, isB_0, isB_1, Bool.false_eq_true, true_and, and_true, false_and, and_false, and_self, Nat.one_ne_zero, Nat.zero_ne_one, reduceIte]
  · have h2 := fst_lo _ _ q hq2
    have h4 : ¬ V (191 + 36 * i + 3 * q) = f := of_decide_eq_false h2
    have h5 : q < V (59 + 10 * i + 7) := by unfold crk at hq2; omega
    have h3 : ¬ V (59 + 10 * i + 7) ≤ q := by omega
    simp only [F_X6_hasCroakOf_L2]
    simp (disch := first | omega | exact hB _) only [hM.cn, hM.cf, h3, h4, ob_s, ob2_s, chk_t, lt_s', litI, n_add, n_mul, n_sub, inb_n, ix_n, n_le, n_lt, n_eq, n_bit, n_m1_lt, n_m1_eq, n_m1_m, n_ne_m, n_m_ne, n_m_lt0, n_0_le_m, if_true, if_false, eq_self, not_true_eq_false, not_false_eq_true, isB_0, isB_1, Bool.false_eq_true, true_and, and_true, false_and, and_false, and_self, Nat.one_ne_zero, Nat.zero_ne_one, reduceIte]
theorem C_isFor {i k : Nat} (hM : MR M a V i) (W : WF c V) (hi : i < 6) (hk : k < V (59 + 10 * i + 7)) : F_X6_isFor n a (nI k) M = some (nI (V (191 + 36 * i + 3 * k + 2))) := by
  have hB := W.b
  have hl := W.ci hi
  have hF := W.F
  have hc := W.cf hi hk
  obtain ⟨w, hw, h8, hb⟩ := hM.fv
  have key : w.testBit (V (191 + 36 * i + 3 * k)) = true ↔ V (191 + 36 * i + 3 * k + 2) = 1 := by
    rw [hb _ (by omega)]
    constructor
    · rintro ⟨k', h1, h2, h3⟩
      rcases Nat.lt_trichotomy k' k with q | q | q
      · exact absurd h2 (W.cd hi q hk)
      · rw [← q]; exact h3
      · exact absurd h2.symm (W.cd hi q h1)
    · exact fun h => ⟨k, hk, rfl, h⟩
  unfold F_X6_isFor
  simp (disch := first | omega | exact hB _) only [hM.cf, h8, bool_0, ob_s, ob2_s, chk_t, lt_s', litI, n_add, n_mul, n_sub, inb_n, ix_n, n_le, n_lt, n_eq, n_bit, n_m1_lt, n_m1_eq, n_m1_m, n_ne_m, n_m_ne, n_m_lt0, n_0_le_m, if_true, if_false, eq_self, not_true_eq_false, not_false_eq_true, isB_0, isB_1, Bool.false_eq_true, true_and, and_true, false_and, and_false, and_self, Nat.one_ne_zero, Nat.zero_ne_one, reduceIte]
  by_cases e : w.testBit (V (191 + 36 * i + 3 * k)) = true
  · have h1 := key.1 e
    simp (disch := first | omega | exact hB _) only [e, h1, Bool.true_eq_false, ob_s, ob2_s, chk_t, lt_s', litI, n_add, n_mul, n_sub, inb_n, ix_n, n_le, n_lt, n_eq, n_bit, n_m1_lt, n_m1_eq, n_m1_m, n_ne_m, n_m_ne, n_m_lt0, n_0_le_m, if_true, if_false, eq_self, not_true_eq_false, not_false_eq_true, isB_0, isB_1, Bool.false_eq_true, true_and, and_true, false_and, and_false, and_self, Nat.one_ne_zero, Nat.zero_ne_one, reduceIte]
  · have h1 : V (191 + 36 * i + 3 * k + 2) = 0 := by
      have h2 : ¬ V (191 + 36 * i + 3 * k + 2) = 1 := fun q => e (key.2 q)
      omega
    simp (disch := first | omega | exact hB _) only [e, h1, ob_s, ob2_s, chk_t, lt_s', litI, n_add, n_mul, n_sub, inb_n, ix_n, n_le, n_lt, n_eq, n_bit, n_m1_lt, n_m1_eq, n_m1_m, n_ne_m, n_m_ne, n_m_lt0, n_0_le_m, if_true, if_false, eq_self, not_true_eq_false, not_false_eq_true, isB_0, isB_1, Bool.false_eq_true, true_and, and_true, false_and, and_false, and_self, Nat.one_ne_zero, Nat.zero_ne_one, reduceIte]
theorem C_sumOfSide {i s : Nat} (hM : MR M a V i) (W : WF c V) (hn : 13 ≤ n) (hi : i < 6) (hs : s < 65536) : F_X6_sumOfSide n a (nI s) M = some (nI (sumS V i s)) := by
  have hB := W.b
  have hl := W.ci hi
  unfold F_X6_sumOfSide
  refine loopS (fun k f => F_X6_sumOfSide_L4 n a M k (nI s) (nI (sm (fun k => if V (191 + 36 * i + 3 * k + 2) = s then stg V i k else 0) f)) (nI f)) (V (59 + 10 * i + 7)) _ (fun k => ?_) (fun k f hf => ?_) n (by omega)
  · simp only [F_X6_sumOfSide_L4]
    simp (disch := first | omega | exact hB _) only [hM.cn, Nat.le_refl, ob_s, ob2_s, chk_t, lt_s', litI, n_add, n_mul, n_sub, inb_n, ix_n, n_le, n_lt, n_eq, n_bit, n_m1_lt, n_m1_eq, n_m1_m, n_ne_m, n_m_ne, n_m_lt0, n_0_le_m, if_true, if_false, eq_self, not_true_eq_false, not_false_eq_true, isB_0, isB_1, Bool.false_eq_true, true_and, and_true, false_and, and_false, and_self, Nat.one_ne_zero, Nat.zero_ne_one, reduceIte]
    rfl
  · have h : ¬ V (59 + 10 * i + 7) ≤ f := by omega
    simp only [F_X6_sumOfSide_L4]
    simp (disch := first | omega | exact hB _) only [hM.cn, C_isFor hM W hi hf, hM.cs, h, sm_s, ob_s, ob2_s, chk_t, lt_s', litI, n_add, n_mul, n_sub, inb_n, ix_n, n_le, n_lt, n_eq, n_bit, n_m1_lt, n_m1_eq, n_m1_m, n_ne_m, n_m_ne, n_m_lt0, n_0_le_m, if_true, if_false, eq_self, not_true_eq_false, not_false_eq_true, isB_0, isB_1, Bool.false_eq_true, true_and, and_true, false_and, and_false, and_self, Nat.one_ne_zero, Nat.zero_ne_one, reduceIte]
    by_cases e : V (191 + 36 * i + 3 * f + 2) = s
    · simp (disch := first | omega | exact hB _) only [e, ob_s, ob2_s, chk_t, lt_s', litI, n_add, n_mul, n_sub, inb_n, ix_n, n_le, n_lt, n_eq, n_bit, n_m1_lt, n_m1_eq, n_m1_m, n_ne_m, n_m_ne, n_m_lt0, n_0_le_m, if_true, if_false, eq_self, not_true_eq_false, not_false_eq_true, isB_0, isB_1, Bool.false_eq_true, true_and, and_true, false_and, and_false, and_self, Nat.one_ne_zero, Nat.zero_ne_one, reduceIte]
    · simp (disch := first | omega | exact hB _) only [e, Nat.add_zero, ob_s, ob2_s, chk_t, lt_s', litI, n_add, n_mul, n_sub, inb_n, ix_n, n_le, n_lt, n_eq, n_bit, n_m1_lt, n_m1_eq, n_m1_m, n_ne_m, n_m_ne, n_m_lt0, n_0_le_m, if_true, if_false, eq_self, not_true_eq_false, not_false_eq_true, isB_0, isB_1, Bool.false_eq_true, true_and, and_true, false_and, and_false, and_self, Nat.one_ne_zero, Nat.zero_ne_one, reduceIte]
end CLS
