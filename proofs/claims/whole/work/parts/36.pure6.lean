/-! ===== PURE: the order of a list ===== -/
def ky (V : Nat → Nat) (i k : Nat) : Nat := 16 * V (41 + V (119 + 12 * i + k)) + k
section KEY
variable {n a c : Nat} {M Mm : Mem} {V : Nat → Nat}
theorem ahN_ky (W : WF c V) {i k : Nat} (hi : i < 6) (hk : k < V (59 + 10 * i + 5)) : ahN V i k = sm (fun x => if ky V i x < ky V i k then 1 else 0) (V (59 + 10 * i + 5)) := by
  have hl := W.li hi
  unfold ahN
  refine sm_congr (fun x hx => ?_)
  unfold ky
  by_cases h1 : V (41 + V (119 + 12 * i + x)) < V (41 + V (119 + 12 * i + k))
  · rw [if_pos h1, if_pos (by omega)]
  · rw [if_neg h1]
    by_cases h2 : V (41 + V (119 + 12 * i + x)) = V (41 + V (119 + 12 * i + k))
    · rw [if_pos h2]
      by_cases h3 : k ≤ x
      · rw [if_pos h3, if_neg (by omega)]
      · rw [if_neg h3, if_pos (by omega)]
    · rw [if_neg h2, if_neg (by omega)]
theorem ky_inj (W : WF c V) {i k x : Nat} (hi : i < 6) (hk : k < V (59 + 10 * i + 5)) (hx : x < V (59 + 10 * i + 5)) (h : ky V i k = ky V i x) : k = x := by
  have hl := W.li hi
  unfold ky at h
  omega
theorem sm_pos {g : Nat → Nat} {m : Nat} : ∀ {n : Nat}, m < n → 0 < g m → 0 < sm g n
  | 0, h, _ => absurd h (Nat.not_lt_zero _)
  | n + 1, h, hg => by
    rw [sm_s]
    by_cases e : m = n
    · subst e; omega
    · have := sm_pos (n := n) (by omega) hg
      omega
/-- the place that no other goes ahead of -/
theorem rkd_min (W : WF c V) {i q : Nat} (hi : i < 6) (hq : q < V (59 + 10 * i + 5)) (h : ∀ x, x < V (59 + 10 * i + 5) → ky V i q ≤ ky V i x) : rkd V i 0 = q := by
  refine fst_eq hq ?_ (fun x hx => ?_)
  · refine decide_eq_true ?_
    rw [ahN_ky W hi hq]
    exact sm_0 (fun x hx => if_neg (by have := h x hx; omega))
  · refine decide_eq_false ?_
    rw [ahN_ky W hi (by omega)]
    have h1 := h x (by omega)
    have h2 : ky V i q ≠ ky V i x := fun e => by have := ky_inj W hi hq (by omega) e; omega
    have h3 := sm_pos (g := fun y => if ky V i y < ky V i x then 1 else 0) hq (by simp only [if_pos (show ky V i q < ky V i x by omega)]; decide)
    omega
theorem C_before (hA : AR M a V) (W : WF c V) {i x k : Nat} (hi : i < 6) (hx : x < V (59 + 10 * i + 5)) (hk : k < V (59 + 10 * i + 5)) : F_X2_isCalledBefore n a (a + 6 + 1 + 4 * i) (nI x) (nI k) M = some (if ky V i x < ky V i k then nI 1 else nI 0) := by
  have hB := W.b
  have hF := W.F
  have hl := W.li hi
  have hm := hA.mo i hi
  have h1 := W.lf hi hx
  have h2 := W.lf hi hk
  unfold F_X2_isCalledBefore ky
  simp (disch := first | omega | exact hB _) only [hm.le, hA.sk, ob_s, ob2_s, chk_t, lt_s', litI, n_add, n_mul, n_sub, inb_n, ix_n, n_le, n_lt, n_eq, n_bit, n_m1_lt, n_m1_eq, n_m1_m, n_ne_m, n_m_ne, n_m_lt0, n_0_le_m, if_true, if_false, eq_self, not_true_eq_false, not_false_eq_true, isB_0, isB_1, Bool.false_eq_true, true_and, and_true, false_and, and_false, and_self, Nat.one_ne_zero, Nat.zero_ne_one, reduceIte]
  by_cases e : V (41 + V (119 + 12 * i + x)) = V (41 + V (119 + 12 * i + k))
  · rw [if_pos e]
    by_cases e2 : k ≤ x
    · rw [if_pos e2, if_neg (by omega)]
    · rw [if_neg e2, if_pos (by omega)]
  · rw [if_neg e]
    by_cases e2 : V (41 + V (119 + 12 * i + k)) ≤ V (41 + V (119 + 12 * i + x))
    · rw [if_pos e2, if_neg (by omega)]
    · rw [if_neg e2, if_pos (by omega)]
theorem C_firstPlace (hA : AR M a V) (W : WF c V) (hn : 13 ≤ n) {i : Nat} (hi : i < 6) (h0 : 0 < V (59 + 10 * i + 5)) : ∃ q, F_X2_firstPlace n a (nI i) M = some (nI q) ∧ q < V (59 + 10 * i + 5) ∧ rkd V i 0 = q := by
  have hB := W.b
  have hl := W.li hi
  have hm := hA.mo i hi
  unfold F_X2_firstPlace
  simp (disch := first | omega | exact hB _) only [ob_s, ob2_s, chk_t, lt_s', litI, n_add, n_mul, n_sub, inb_n, ix_n, n_le, n_lt, n_eq, n_bit, n_m1_lt, n_m1_eq, n_m1_m, n_ne_m, n_m_ne, n_m_lt0, n_0_le_m, if_true, if_false, eq_self, not_true_eq_false, not_false_eq_true, isB_0, isB_1, Bool.false_eq_true, true_and, and_true, false_and, and_false, and_self, Nat.one_ne_zero, Nat.zero_ne_one, reduceIte]
  have ky0 : ∀ y, y < 1 → ky V i 0 ≤ ky V i y := fun y hy => by rw [show y = 0 by omega]; exact Nat.le_refl _
  have key : ∃ r, F_X2_firstPlace_L12 n a (nI i) M n (nI 0) (nI 1) = some r ∧ ∃ q, r = nI q ∧ q < V (59 + 10 * i + 5) ∧ rkd V i 0 = q := by
    refine loopI (fun k f (x : Nat) => F_X2_firstPlace_L12 n a (nI i) M k (nI x) (nI f)) (fun f x => x < f ∧ ∀ y, y < f → ky V i x ≤ ky V i y) (fun r => ∃ q, r = nI q ∧ q < V (59 + 10 * i + 5) ∧ rkd V i 0 = q) 1 (V (59 + 10 * i + 5)) (fun k x hx => ?_) (fun k f x hs hf hx => ?_) n (by omega) (by omega) 0 ⟨by omega, ky0⟩
    · obtain ⟨h1, h2⟩ := hx
      refine ⟨nI x, ?_, x, rfl, h1, rkd_min W hi h1 h2⟩
      simp only [F_X2_firstPlace_L12]
      simp (disch := first | omega | exact hB _) only [hm.ln, Nat.le_refl, ob_s, ob2_s, chk_t, lt_s', litI, n_add, n_mul, n_sub, inb_n, ix_n, n_le, n_lt, n_eq, n_bit, n_m1_lt, n_m1_eq, n_m1_m, n_ne_m, n_m_ne, n_m_lt0, n_0_le_m, if_true, if_false, eq_self, not_true_eq_false, not_false_eq_true, isB_0, isB_1, Bool.false_eq_true, true_and, and_true, false_and, and_false, and_self, Nat.one_ne_zero, Nat.zero_ne_one, reduceIte]
    · obtain ⟨h1, h2⟩ := hx
      have hle : ¬ V (59 + 10 * i + 5) ≤ f := by omega
      by_cases e : ky V i f < ky V i x
      · refine ⟨f, ⟨by omega, fun y hy => ?_⟩, ?_⟩
        · by_cases e2 : y = f
          · rw [e2]; exact Nat.le_refl _
          · have := h2 y (by omega); omega
        · simp only [F_X2_firstPlace_L12]
          simp (disch := first | omega | exact hB _) only [hm.ln, hle, C_before hA W hi hf (by omega : x < V (59 + 10 * i + 5)), e, n10, ob_s, ob2_s, chk_t, lt_s', litI, n_add, n_mul, n_sub, inb_n, ix_n, n_le, n_lt, n_eq, n_bit, n_m1_lt, n_m1_eq, n_m1_m, n_ne_m, n_m_ne, n_m_lt0, n_0_le_m, if_true, if_false, eq_self, not_true_eq_false, not_false_eq_true, isB_0, isB_1, Bool.false_eq_true, true_and, and_true, false_and, and_false, and_self, Nat.one_ne_zero, Nat.zero_ne_one, reduceIte]
      · refine ⟨x, ⟨by omega, fun y hy => ?_⟩, ?_⟩
        · by_cases e2 : y = f
          · rw [e2]; omega
          · exact h2 y (by omega)
        · simp only [F_X2_firstPlace_L12]
          simp (disch := first | omega | exact hB _) only [hm.ln, hle, C_before hA W hi hf (by omega : x < V (59 + 10 * i + 5)), e, ob_s, ob2_s, chk_t, lt_s', litI, n_add, n_mul, n_sub, inb_n, ix_n, n_le, n_lt, n_eq, n_bit, n_m1_lt, n_m1_eq, n_m1_m, n_ne_m, n_m_ne, n_m_lt0, n_0_le_m, if_true, if_false, eq_self, not_true_eq_false, not_false_eq_true, isB_0, isB_1, Bool.false_eq_true, true_and, and_true, false_and, and_false, and_self, Nat.one_ne_zero, Nat.zero_ne_one, reduceIte]
  obtain ⟨r, h1, q, h2, h3, h4⟩ := key
  exact ⟨q, by rw [← h2]; exact h1, h3, h4⟩
theorem C_call0 (hA : AR M a V) (W : WF c V) (x1 : Int32) (h : ¬ isL x1 (V 2)) : F_X2_refusalToCall n a x1 M = some 4 := by
  unfold F_X2_refusalToCall
  rw [C_hasMotion_f hA W.b h]
  rfl
theorem C_call1 (hA : AR M a V) (W : WF c V) {i : Nat} (hi : i < V 2) : F_X2_refusalToCall n a (nI i) M = some (if V (59 + 10 * i + 5) = 0 then 22 else 0) := by
  have hB := W.b
  have hM := W.M
  have hm := hA.mo i (by omega)
  unfold F_X2_refusalToCall
  simp (disch := first | omega | exact hB _) only [C_hasMotion_t hA hB hi, n10, hm.ln, Nat.le_zero, ob_s, ob2_s, chk_t, lt_s', litI, n_add, n_mul, n_sub, inb_n, ix_n, n_le, n_lt, n_eq, n_bit, n_m1_lt, n_m1_eq, n_m1_m, n_ne_m, n_m_ne, n_m_lt0, n_0_le_m, if_true, if_false, eq_self, not_true_eq_false, not_false_eq_true, isB_0, isB_1, Bool.false_eq_true, true_and, and_true, false_and, and_false, and_self, Nat.one_ne_zero, Nat.zero_ne_one, reduceIte]
  split <;> rfl
/-- the counters of a call -/
theorem cnt_WF {V' : Nat → Nat} {i x : Nat} (W : WF c V') (hc : c < 60000) (hi : i < 6) (hx : x < 12) {u v w z : Nat} (hu : u ≤ c + 1) (hv : v ≤ c + 1) (hw : w ≤ c + 1) (hz : z ≤ c + 1) : WF (c + 1) (sV (sV (sV (sV V' (41 + x) u) (59 + 10 * i + 6) v) 3 w) 4 z) := by
  refine ⟨sV_lt (sV_lt (sV_lt (sV_lt W.b6 (by omega)) (by omega)) (by omega)) (by omega), ?_, ?_, ?_, ?_, ?_, ?_, ?_, ?_⟩
  · rw [sV_n (by omega), sV_n (by omega), sV_n (by omega), sV_n (by omega)]; exact W.F
  · rw [sV_n (by omega), sV_n (by omega), sV_n (by omega), sV_n (by omega)]; exact W.P
  · rw [sV_n (by omega), sV_n (by omega), sV_n (by omega), sV_n (by omega)]; exact W.M
  · rw [sV_n (by omega), sV_s]; exact hw
  · rw [sV_s]; exact hz
  · intro f hf
    obtain ⟨q1, q2, q3, q4, q5⟩ := W.fr hf
    simp only [sV]
    refine ⟨?_, ?_, ?_, ?_, ?_⟩ <;> (repeat' split) <;> omega
  · intro p hp
    have q := W.pd hp
    rw [sV_n (by omega), sV_n (by omega), sV_n (by omega), sV_n (by omega)]
    exact ⟨q.1, Nat.le_trans (onN_le (by rw [sV_n (by omega), sV_n (by omega), sV_n (by omega), sV_n (by omega)]) (fun f hf => by rw [sV_n (by have := W.F; omega), sV_n (by have := W.F; omega), sV_n (by have := W.F; omega), sV_n (by have := W.F; omega)]; exact id)) q.2⟩
  · intro i' hi'
    by_cases e : i' = i
    · subst e
      obtain ⟨a0, a1, a2, a3, a4, a5, a6, a7, a8, a9, a10, a11⟩ := W.mo hi'
      have hB := W.b
      unfold WM
      simp (disch := first | omega | exact hB _) only [sV_n, sV_s, ob_s, ob2_s, chk_t, lt_s', litI, n_add, n_mul, n_sub, inb_n, ix_n, n_le, n_lt, n_eq, n_bit, n_m1_lt, n_m1_eq, n_m1_m, n_ne_m, n_m_ne, n_m_lt0, n_0_le_m, if_true, if_false, eq_self, not_true_eq_false, not_false_eq_true, isB_0, isB_1, Bool.false_eq_true, true_and, and_true, false_and, and_false, and_self, Nat.one_ne_zero, Nat.zero_ne_one, reduceIte]
      exact ⟨a0, a1, a2, a3, a4, a5, hv, a7, a8, a9, a10, a11⟩
    · refine (W.mo hi').keep (by omega) (by rw [sV_n (by omega), sV_n (by omega), sV_n (by omega), sV_n (by omega)]; exact Nat.le_refl _) (fun j hj => ?_)
      unfold inM at hj
      rw [sV_n (by omega), sV_n (by omega), sV_n (by omega), sV_n (by omega)]
end KEY
