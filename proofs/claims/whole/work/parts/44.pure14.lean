/-! ===== PURE: undo, save, restore ===== -/
section UND
variable {n c : Nat} {T M Mm : Mem} {V : Nat → Nat}
theorem R_L37 {cnt : Nat} (hc : cnt ≤ 7) (h1 : M 0 1 = nI cnt) (hn : 408 ≤ n) : ∃ M', F_X10_undo_L37 n n 0 M = some (nI cnt, M') ∧ (∀ k, k < 407 → M' 1 k = M 4 (cnt * 407 + k)) ∧ ∀ k, k ≠ 1 → M' k = M k := by
  have hB : ∀ k : Nat, 0 ≤ k := fun _ => Nat.zero_le _
  have key : ∃ r, F_X10_undo_L37 n n (nI 0) M = some r ∧ r.1 = nI cnt ∧ (∀ k, k < 407 → r.2 1 k = M 4 (cnt * 407 + k)) ∧ ∀ k, k ≠ 1 → r.2 k = M k := by
    refine loopI (fun k f x => F_X10_undo_L37 n k (nI f) x) (fun f x => (∀ k, k < f → x 1 k = M 4 (cnt * 407 + k)) ∧ ∀ k, k ≠ 1 → x k = M k) (fun r => r.1 = nI cnt ∧ (∀ k, k < 407 → r.2 1 k = M 4 (cnt * 407 + k)) ∧ ∀ k, k ≠ 1 → r.2 k = M k) 0 407 (fun k x hx => ?_) (fun k f x hs hf hx => ?_) n (by omega) (by omega) M ⟨fun k hk => absurd hk (Nat.not_lt_zero _), fun _ _ => rfl⟩
    · have e0 : x 0 = M 0 := hx.2 0 (by decide)
      refine ⟨(nI cnt, x), ?_, rfl, hx⟩
      simp only [F_X10_undo_L37]
      simp (disch := first | omega | exact hB _) only [Nat.le_refl, e0, h1, ob_s, ob2_s, chk_t, lt_s', litI, n_add, n_mul, n_sub, inb_n, ix_n, n_le, n_lt, n_eq, n_bit, n_m1_lt, n_m1_eq, n_m1_m, n_ne_m, n_m_ne, n_m_lt0, n_0_le_m, if_true, if_false, eq_self, not_true_eq_false, not_false_eq_true, isB_0, isB_1, Bool.false_eq_true, true_and, and_true, false_and, and_false, and_self, Nat.one_ne_zero, Nat.zero_ne_one, reduceIte]
    · have e0 : x 0 = M 0 := hx.2 0 (by decide)
      have e4 : x 4 = M 4 := hx.2 4 (by decide)
      have hle : ¬ 407 ≤ f := by omega
      have hb : cnt * 407 + f < 3256 := by omega
      refine ⟨up2 x 1 f (M 4 (cnt * 407 + f)), ⟨fun k hk => ?_, fun k hk => by rw [u2_k hk, hx.2 k hk]⟩, ?_⟩
      · by_cases e : k = f
        · subst e; rw [u2_s]
        · rw [u2_j e]; exact hx.1 k (by omega)
      · simp only [F_X10_undo_L37]
        simp (disch := first | omega | exact hB _) only [hle, e0, h1, e4, ob_s, ob2_s, chk_t, lt_s', litI, n_add, n_mul, n_sub, inb_n, ix_n, n_le, n_lt, n_eq, n_bit, n_m1_lt, n_m1_eq, n_m1_m, n_ne_m, n_m_ne, n_m_lt0, n_0_le_m, if_true, if_false, eq_self, not_true_eq_false, not_false_eq_true, isB_0, isB_1, Bool.false_eq_true, true_and, and_true, false_and, and_false, and_self, Nat.one_ne_zero, Nat.zero_ne_one, reduceIte]
  obtain ⟨r, e1, e2, e3⟩ := key
  exact ⟨r.2, by rw [← e2]; exact e1, e3⟩
theorem sc_undo (hn : 2900 ≤ n) : SC_undo n Rel := by
  intro j T M Mm hj h
  obtain ⟨hj0, hO, V, hR, W, hA, cnt, past, h1, h2, h3, ⟨nx, x1, x2, x3⟩, h5⟩ := id h
  have hB := W.b
  by_cases h0 : cnt = 0
  · subst h0
    refine ⟨.inl 0, M, nI 0, up2 Mm 0 0 (nI 1), ?_, ?_, fun k hk => Sum.inl.inj hk ▸ rfl, ?_, no_r, h.thr hj⟩
    · unfold F_X9_undo
      simp (disch := first | omega | exact hB _) only [h3, ob_s, ob2_s, chk_t, lt_s', litI, n_add, n_mul, n_sub, inb_n, ix_n, n_le, n_lt, n_eq, n_bit, n_m1_lt, n_m1_eq, n_m1_m, n_ne_m, n_m_ne, n_m_lt0, n_0_le_m, if_true, if_false, eq_self, not_true_eq_false, not_false_eq_true, isB_0, isB_1, Bool.false_eq_true, true_and, and_true, false_and, and_false, and_self, Nat.one_ne_zero, Nat.zero_ne_one, reduceIte]
    · unfold F_X10_undo
      simp (disch := first | omega | exact hB _) only [h2, u2_s, n10, ob_s, ob2_s, chk_t, lt_s', litI, n_add, n_mul, n_sub, inb_n, ix_n, n_le, n_lt, n_eq, n_bit, n_m1_lt, n_m1_eq, n_m1_m, n_ne_m, n_m_ne, n_m_lt0, n_0_le_m, if_true, if_false, eq_self, not_true_eq_false, not_false_eq_true, isB_0, isB_1, Bool.false_eq_true, true_and, and_true, false_and, and_false, and_self, Nat.one_ne_zero, Nat.zero_ne_one, reduceIte]
    · rw [u2_s]; rfl
  have hx := x3 (cnt - 1) (by omega)
  have hW := (h5 (cnt - 1) (by omega)).1
  rw [show (nx + 8 - cnt + (cnt - 1)) % 8 = (nx + 7) % 8 by omega] at hx
  have em := mod8p nx x1
  obtain ⟨M1, c1, c2, c3⟩ := X2_copy (n := n) (a := 1) (o := 94 + 1 + 1 + 31 * ((nx + 7) % 8)) (M := up2 (up2 M 94 1 (nI ((nx + 7) % 8))) 94 2 (nI (cnt - 1))) hW (by omega) (hx.cong hW (fun k g1 g2 => by rw [u2_k (by omega), u2_k (by omega)])) (by omega)
  obtain ⟨M2, d1, d2, d3⟩ := R_L37 (n := n) (M := up2 (up2 Mm 0 0 (nI 0)) 0 1 (nI (cnt - 1))) (cnt := cnt - 1) (by omega) u2_s (by omega)
  have q94 : ∀ j, M1 94 j = (up2 (up2 M 94 1 (nI ((nx + 7) % 8))) 94 2 (nI (cnt - 1))) 94 j := fun j => by rw [c3 94 (by omega)]
  refine ⟨.inr (nI (cnt - 1)), M1, nI (cnt - 1), M2, ?_, ?_, no_l, ?_, fun w hw => (Sum.inr.inj hw).symm, by omega, ?_, past (cnt - 1), ?_, hW.mono (by omega), c2, cnt - 1, past, by omega, ?_, ?_, ⟨(nx + 7) % 8, by omega, ?_, fun i hi => ?_⟩, fun i hi => ⟨(h5 i (by omega)).1.mono (by omega), fun k hk => ?_⟩⟩
  · unfold F_X9_undo F_X5_pop
    have hi : inb (nI ((nx + 7) % 8)) 8 = true := inb_n (by omega) (by decide)
    have hix : ix (nI ((nx + 7) % 8)) = (nx + 7) % 8 := ix_n (by omega)
    rw [h3, litN, if_neg (by rw [n_eq (by omega) (by decide)]; exact h0), x2, litN, litN, em, lt_s', u2_j (by decide), h3, lt_s', n_sub (by omega), u2_j (by decide), u2_s, hi, chk_t, hix, c1, ob_s, ob_s, q94, u2_s]
  · unfold F_X10_undo
    rw [h2, litN, if_neg (by rw [n_eq (by omega) (by decide)]; exact h0), lt_s', u2_s, if_pos rfl, lt_s', u2_j (by decide), h2, litN, n_sub (by omega)]
    exact d1
  · rw [d3 0 (by decide), u2_j (by decide), u2_s]; rfl
  · exact hO.fr (by omega) (by rw [c3 0 (by decide), u2_k (by decide), u2_k (by decide)]) (fun k g1 g2 => by rw [c3 k (by omega), u2_k (by omega), u2_k (by omega)]) (by rw [c3 370 (by decide), u2_k (by decide), u2_k (by decide)]) (by rw [c3 371 (by decide), u2_k (by decide), u2_k (by decide)]) (fun j g _ => by rw [d3 0 (by decide), u2_j (by omega), u2_j (by omega)]) (by rw [d3 3 (by decide), u2_k (by decide), u2_k (by decide)]) (by rw [d3 5 (by decide), u2_k (by decide), u2_k (by decide)]) (by rw [d3 6 (by decide), u2_k (by decide), u2_k (by decide)]) (by rw [d3 8 (by decide), u2_k (by decide), u2_k (by decide)]) (by rw [d3 9 (by decide), u2_k (by decide), u2_k (by decide)])
  · intro k hk
    rw [d2 k hk, u2_k (by decide), u2_k (by decide)]
    exact (h5 (cnt - 1) (by omega)).2 k hk
  · rw [d3 0 (by decide), u2_s]
  · rw [q94, u2_s]
  · rw [q94, u2_j (by decide), u2_s]
  · have q := x3 i (by omega)
    rw [show (nx + 8 - cnt + i) % 8 = ((nx + 7) % 8 + 8 - (cnt - 1) + i) % 8 by omega] at q
    exact q.cong (h5 i (by omega)).1 (fun k g1 g2 => by rw [c3 k (by omega), u2_k (by omega), u2_k (by omega)])
  · rw [d3 4 (by decide), u2_k (by decide), u2_k (by decide)]
    exact (h5 i (by omega)).2 k hk
theorem sc_save (hn : 2900 ≤ n) : SC_save n Rel := by
  intro j T M Mm hj h
  obtain ⟨hj0, hO, V, hR, W, hA, cnt, past, h5⟩ := id h
  have hB := W.b
  obtain ⟨M1, c1, c2, c3⟩ := X2_copy (n := n) (a := 63) (o := 1) W (by omega) hA (by omega)
  obtain ⟨M2, d1, d2, d3⟩ := R_lays (n := n) (M := up2 Mm 0 0 (nI 0)) (o0 := 3) (o1 := 1) (by decide) (by omega)
  have hR2 : RR M2 V := hR.fr (by rw [d3 1 (by decide), u2_k (by decide)])
  have e8 : M1 1 8 = nI (V 2) := by rw [c3 1 (by decide)]; exact hA.Mo
  refine ⟨up2 M1 0 3 (nI 1), nI (V 2), up2 M2 0 4 (nI 1), ?_, ?_, by omega, ?_, V, hR2.fr (u2_k (by decide)), W.mono (by omega), (hA.cong W (fun k g1 g2 => c3 k (by omega))).cong W (fun k g1 g2 => u2_k (by omega)), cnt, past, h5.fr (by omega) (fun k g1 g2 => by rw [u2_k (by omega), c3 k (by omega)]) (by rw [u2_j (by decide), d3 0 (by decide), u2_j (by decide)]) (by rw [u2_k (by decide), d3 4 (by decide), u2_k (by decide)])⟩
  · unfold F_X9_save
    rw [c1, ob_s, lt_s', litN, u2_k (by decide), e8]
  · unfold F_X10_save
    rw [lt_s', litN, d1, ob_s, lt_s', litN]
    simp (disch := first | omega | exact hB _) only [u2_k, hR2, ob_s, ob2_s, chk_t, lt_s', litI, n_add, n_mul, n_sub, inb_n, ix_n, n_le, n_lt, n_eq, n_bit, n_m1_lt, n_m1_eq, n_m1_m, n_ne_m, n_m_ne, n_m_lt0, n_0_le_m, if_true, if_false, eq_self, not_true_eq_false, not_false_eq_true, isB_0, isB_1, Bool.false_eq_true, true_and, and_true, false_and, and_false, and_self, Nat.one_ne_zero, Nat.zero_ne_one, reduceIte]
  · obtain ⟨⟨sv, Vs, s1, s2, s3, s4⟩, g1, g2, g3, g4, g5, g6⟩ := hO
    have z : ∀ j, 0 < j → j ≠ 4 → up2 M2 0 4 (nI 1) 0 j = Mm 0 j := fun j a1 a2 => by rw [u2_j a2, d3 0 (by decide), u2_j (by omega)]
    have zr : ∀ k, k ≠ 0 → k ≠ 3 → up2 M2 0 4 (nI 1) k = Mm k := fun k a1 a2 => by rw [u2_k a1, d3 k a2, u2_k a1]
    have zM : ∀ j, j ≠ 3 → up2 M1 0 3 (nI 1) 0 j = M 0 j := fun j a1 => by rw [u2_j a1, c3 0 (by decide)]
    refine ⟨⟨1, V, by decide, u2_s, u2_s, fun _ => ⟨W.mono (by omega), c2.cong W (fun k a1 a2 => u2_k (by omega)), fun k hk => ?_⟩⟩, ?_, ?_, ?_, ?_, ?_, ?_⟩
    · rw [u2_k (by decide), d2 k hk, u2_k (by decide)]; exact hR k hk
    · rw [zM 9 (by decide), z 2 (by decide) (by decide)]; exact g1
    · rw [zM 10 (by decide), z 3 (by decide) (by decide)]; exact g2
    · exact g3.fr (by rw [u2_k (by decide), c3 370 (by decide)]) (z 14 (by decide) (by decide)) (zr 5 (by decide) (by decide))
    · exact g4.fr (by rw [u2_k (by decide), c3 371 (by decide)]) (z 17 (by decide) (by decide)) (zr 6 (by decide) (by decide))
    · rw [zr 8 (by decide) (by decide)]; exact g5
    · rw [zr 9 (by decide) (by decide)]; exact g6
theorem sc_restore (hn : 2900 ≤ n) : SC_restore n Rel := by
  intro j T M Mm hj h
  obtain ⟨hj0, hO, V, hR, W, hA, cnt, past, h5⟩ := id h
  have hB := W.b
  obtain ⟨⟨sv, Vs, s1, s2, s3, s4⟩, _⟩ := id hO
  by_cases h0 : sv = 0
  · subst h0
    refine ⟨.inl 0, M, nI 0, up2 Mm 0 0 (nI 1), ?_, ?_, fun k hk => Sum.inl.inj hk ▸ rfl, ?_, no_r, h.thr hj⟩
    · unfold F_X9_restore
      simp (disch := first | omega | exact hB _) only [s3, ob_s, ob2_s, chk_t, lt_s', litI, n_add, n_mul, n_sub, inb_n, ix_n, n_le, n_lt, n_eq, n_bit, n_m1_lt, n_m1_eq, n_m1_m, n_ne_m, n_m_ne, n_m_lt0, n_0_le_m, if_true, if_false, eq_self, not_true_eq_false, not_false_eq_true, isB_0, isB_1, Bool.false_eq_true, true_and, and_true, false_and, and_false, and_self, Nat.one_ne_zero, Nat.zero_ne_one, reduceIte]
    · unfold F_X10_restore
      simp (disch := first | omega | exact hB _) only [s2, u2_s, n10, ob_s, ob2_s, chk_t, lt_s', litI, n_add, n_mul, n_sub, inb_n, ix_n, n_le, n_lt, n_eq, n_bit, n_m1_lt, n_m1_eq, n_m1_m, n_ne_m, n_m_ne, n_m_lt0, n_0_le_m, if_true, if_false, eq_self, not_true_eq_false, not_false_eq_true, isB_0, isB_1, Bool.false_eq_true, true_and, and_true, false_and, and_false, and_self, Nat.one_ne_zero, Nat.zero_ne_one, reduceIte]
    · rw [u2_s]; rfl
  have hs1 : sv = 1 := by omega
  subst hs1
  obtain ⟨Ws, As, Rs⟩ := s4 rfl
  obtain ⟨M1, c1, c2, c3⟩ := X2_copy (n := n) (a := 1) (o := 63) Ws (by omega) As (by omega)
  obtain ⟨M2, d1, d2, d3⟩ := R_lays (n := n) (M := up2 Mm 0 0 (nI 0)) (o0 := 1) (o1 := 3) (by decide) (by omega)
  have hR2 : RR M2 Vs := fun k hk => by rw [d2 k hk, u2_k (by decide)]; exact Rs k hk
  obtain ⟨h1, h2, h3, ⟨nx, x1, x2, x3⟩, h6⟩ := h5
  refine ⟨.inr (nI (Vs 2)), up2 M1 94 2 (nI 0), nI (Vs 2), up2 M2 0 1 (nI 0), ?_, ?_, no_l, ?_, fun w hw => (Sum.inr.inj hw).symm, by omega, ?_, Vs, hR2.fr (u2_k (by decide)), Ws.mono (by omega), c2.cong Ws (fun k g1 g2 => u2_k (by omega)), 0, past, by decide, u2_s, u2_s, ⟨nx, x1, by rw [u2_j (by decide), c3 94 (by decide)]; exact x2, fun i hi => absurd hi (Nat.not_lt_zero _)⟩, fun i hi => absurd hi (Nat.not_lt_zero _)⟩
  · unfold F_X9_restore F_X5_forget
    rw [s3, litN, if_neg (by rw [n10]; exact id), c1, ob_s, lt_s', ob_s]
    show some (Sum.inr (up2 M1 94 2 (nI 0) 1 8), _) = _
    rw [u2_k (by decide), c2.Mo]
  · unfold F_X10_restore
    rw [s2, litN, if_neg (by rw [n10]; exact id), lt_s', u2_s, if_pos rfl, d1, ob_s, lt_s']
    have hBs := Ws.b
    simp (disch := first | omega | exact hBs _) only [chk_t, litI, inb_n, ix_n, u2_k, hR2]
  · rw [u2_j (by decide), d3 0 (by decide), u2_s]; rfl
  · exact hO.fr (by omega) (by rw [u2_k (by decide), c3 0 (by decide)]) (fun k g1 g2 => by rw [u2_k (by omega), c3 k (by omega)]) (by rw [u2_k (by decide), c3 370 (by decide)]) (by rw [u2_k (by decide), c3 371 (by decide)]) (fun j g _ => by rw [u2_j (by omega), d3 0 (by decide), u2_j (by omega)]) (by rw [u2_k (by decide), d3 3 (by decide), u2_k (by decide)]) (by rw [u2_k (by decide), d3 5 (by decide), u2_k (by decide)]) (by rw [u2_k (by decide), d3 6 (by decide), u2_k (by decide)]) (by rw [u2_k (by decide), d3 8 (by decide), u2_k (by decide)]) (by rw [u2_k (by decide), d3 9 (by decide), u2_k (by decide)])
end UND
