/-! ===== PURE: describeList ===== -/
section DLL
variable {n c : Nat} {T M Mm : Mem} {V : Nat → Nat}
def fin (V : Nat → Nat) (i : Nat) : Nat × (Nat → Nat) := if V (59 + 10 * i + 1) = 0 then dl V i (V (59 + 10 * i + 5)) else putC (dl V i (V (59 + 10 * i + 5))) 124
theorem C_setlen {L cap : Nat} {ch : Nat → Nat} (h : TB T M 371 373 1 L cap ch) : ∃ M', F_J4_setLength_d00df_l n T (nI 0) M = some M' ∧ TBl T M' (0, fun _ => 0) ∧ ∀ k, k ≠ 371 → M' k = M k := by
  obtain ⟨h1, h3, hc, hl, h7, hr, hf⟩ := h
  have hB : ∀ k : Nat, 0 ≤ k := fun _ => Nat.zero_le _
  have hcb : cap < 2147483648 := by omega
  have hens : F_J5_ensureCapacityInternal_d00df_l n T (nI 0) M = some () := by
    unfold F_J5_ensureCapacityInternal_d00df_l
    rw [hc, h1, ix_n hcb, litN, sh0r hcb, lt_s', litN, if_pos (by rw [n_sub0 (by decide) hcb]; exact Nat.zero_le _)]
  have h0 : (0 : Int32) ≤ nI 0 := by decide
  have hL0 : nI 0 ≤ nI L := by rw [n_le (by decide) (by omega)]; exact Nat.zero_le _
  unfold F_J4_setLength_d00df_l F_J5_setLength_d00df_l
  rw [if_pos h0, hens, ob_s, h3, if_pos hL0]
  by_cases e : nI L ≤ nI 0
  · rw [if_pos e, lt_s', ob_s]
    exact ⟨_, rfl, ⟨cap, by rw [u2_j (by decide)]; exact h1, u2_s, hc, Nat.zero_le _, h7, fun k hk => absurd hk (Nat.not_lt_zero _), hf⟩, fun k hk => u2_k hk⟩
  · rw [if_neg e, lt_s', lt_s', ob_s]
    exact ⟨_, rfl, ⟨cap, by rw [u2_j (by decide), u2_j (by decide)]; exact h1, u2_s, hc, Nat.zero_le _, h7, fun k hk => absurd hk (Nat.not_lt_zero _), hf⟩, fun k hk => by rw [u2_k hk, u2_k hk]⟩
theorem C_dl {i : Nat} {M0 T0 : Mem} (hA : AR M0 1 V) (W : WF c V) (hn : 14 ≤ n) (hi : i < 6) (hT : TBl T0 M (0, fun _ => 0)) (hQ : QI V i M 0) (hfr : ∀ k, k ≠ 344 → k ≠ 345 → k ≠ 371 → M k = M0 k) :
    ∃ T' M', Fg_X9_describeList_L30 n (nI i) 13 (nI 0) T0 M = some (.inr (nI (fin V i).1), T', M') ∧ TBl T' M' (fin V i) ∧ (∀ k, k ≠ 344 → k ≠ 345 → k ≠ 371 → M' k = M0 k) ∧ T' 372 = T0 372 ∧ T' 374 0 = T0 374 0 ∧ ∀ r, r < V (59 + 10 * i + 5) → rkd V i r < V (59 + 10 * i + 5) := by
  have hB := W.b
  have hF := W.F
  have hl := W.li hi
  have hm : MR M0 (8 + 4 * i) V i := hA.mo i hi
  have key : ∃ r, Fg_X9_describeList_L30 n (nI i) 13 (nI 0) T0 M = some r ∧ r.1 = .inr (nI (fin V i).1) ∧ TBl r.2.1 r.2.2 (fin V i) ∧ (∀ k, k ≠ 344 → k ≠ 345 → k ≠ 371 → r.2.2 k = M0 k) ∧ r.2.1 372 = T0 372 ∧ r.2.1 374 0 = T0 374 0 ∧ ∀ r, r < V (59 + 10 * i + 5) → rkd V i r < V (59 + 10 * i + 5) := by
    refine loopI (fun k r (x : Mem × Mem) => Fg_X9_describeList_L30 n (nI i) k (nI r) x.1 x.2) (fun r x => TBl x.1 x.2 (dl V i r) ∧ QI V i x.2 r ∧ (∀ k, k ≠ 344 → k ≠ 345 → k ≠ 371 → x.2 k = M0 k) ∧ x.1 372 = T0 372 ∧ x.1 374 0 = T0 374 0 ∧ ∀ r', r' < r → rkd V i r' < V (59 + 10 * i + 5)) (fun r => r.1 = .inr (nI (fin V i).1) ∧ TBl r.2.1 r.2.2 (fin V i) ∧ (∀ k, k ≠ 344 → k ≠ 345 → k ≠ 371 → r.2.2 k = M0 k) ∧ r.2.1 372 = T0 372 ∧ r.2.1 374 0 = T0 374 0 ∧ ∀ r, r < V (59 + 10 * i + 5) → rkd V i r < V (59 + 10 * i + 5)) 0 (V (59 + 10 * i + 5)) (fun k x hx => ?_) (fun k r x hs hr hx => ?_) 13 (by omega) (by omega) (T0, M) ⟨hT, hQ, hfr, rfl, rfl, fun r' h => absurd h (Nat.not_lt_zero _)⟩
    · obtain ⟨x1, x2⟩ := x
      obtain ⟨q1, q2, q3, q4, q5, q6⟩ := hx
      have g := dl_gd V i (V (59 + 10 * i + 5))
      have e2 : x2 (1 + 6 + 1 + 4 * i) = M0 (8 + 4 * i) := by
        rw [show 1 + 6 + 1 + 4 * i = 8 + 4 * i by omega]
        exact q3 _ (by omega) (by omega) (by omega)
      have hlen : x2 (1 + 6 + 1 + 4 * i) 2 = nI (V (59 + 10 * i + 5)) := by rw [e2]; exact hm.ln
      have hcl : x2 (1 + 6 + 1 + 4 * i) 3 = nI (V (59 + 10 * i + 1)) := by rw [e2]; exact hm.cl
      show ∃ r, Fg_X9_describeList_L30 n (nI i) (k + 1) (nI (V (59 + 10 * i + 5))) x1 x2 = some r ∧ _
      rw [Fg_X9_describeList_L30, ix_n (by omega), hlen, if_pos (by rw [n_le (hB _) (hB _)]; exact Nat.le_refl _), hcl]
      by_cases z : V (59 + 10 * i + 1) = 0
      · have ef : fin V i = dl V i (V (59 + 10 * i + 5)) := if_pos z
        obtain ⟨cap, hTB⟩ := q1
        rw [if_pos (by rw [litN, n_eq (hB _) (by decide)]; exact z), g_len_l hTB, ob_s]
        refine ⟨_, rfl, by rw [ef], ⟨cap, by rw [ef]; exact hTB⟩, q3, q4, q5, q6⟩
      · have ef : fin V i = putC (dl V i (V (59 + 10 * i + 5))) 124 := if_neg z
        obtain ⟨T2, p1, ⟨cap, p2⟩, p3, p4⟩ := q1.put (n := n) (x := 124) (by omega) (by decide)
        rw [if_neg (by rw [litN, n_eq (hB _) (by decide)]; exact z), litN, p1, ogu_s, g_len_l p2, ob_s]
        refine ⟨_, rfl, by rw [ef], ⟨cap, by rw [ef]; exact p2⟩, fun k a b d => (u2_k d).trans (q3 k a b d), p3.trans q4, p4.trans q5, q6⟩
    · obtain ⟨x1, x2⟩ := x
      obtain ⟨q1, q2, q3, q4, q5, q6⟩ := hx
      have g := dl_gd V i r
      have e2 : x2 (1 + 6 + 1 + 4 * i) = M0 (8 + 4 * i) := by
        rw [show 1 + 6 + 1 + 4 * i = 8 + 4 * i by omega]
        exact q3 _ (by omega) (by omega) (by omega)
      have hlen : x2 (1 + 6 + 1 + 4 * i) 2 = nI (V (59 + 10 * i + 5)) := by rw [e2]; exact hm.ln
      have hle : ¬ nI (V (59 + 10 * i + 5)) ≤ nI r := by rw [n_le (hB _) (by omega)]; omega
      have hnx : nI r + 1 = nI (r + 1) := by rw [litN, n_add]
      by_cases r0 : r ≤ 0
      · have hs0 : dl V i (r + 1) = if V (29 + V (119 + 12 * i + rkd V i r)) = 0 then putC (putN (dl V i r) (V (119 + 12 * i + rkd V i r))) 126 else putN (dl V i r) (V (119 + 12 * i + rkd V i r)) := by
          show (if _ then _ else _) = _
          rw [if_pos r0]
        obtain ⟨T', M', s1, s2, s3, s4, s5, s6, s7⟩ := C_dlstep (n := n) (fun T M => Fg_X9_describeList_L30 n (nI i) k (nI (r + 1)) T M) hA W hn hi (by omega) q1 q2 hr q3 q4 q5 rfl
        refine ⟨(T', M'), ⟨by rw [hs0]; exact s2, s3, s4, s5, s6, fun r' h => if e : r' = r then e ▸ s7 else q6 r' (by omega)⟩, ?_⟩
        show Fg_X9_describeList_L30 n (nI i) (k + 1) (nI r) x1 x2 = Fg_X9_describeList_L30 n (nI i) k (nI (r + 1)) T' M'
        rw [← s1, Fg_X9_describeList_L30]
        simp only [hnx, lt_s']
        rw [ix_n (by omega : i < 2147483648), hlen, if_neg hle, if_pos (by rw [litN, n_le (by omega) (by decide)]; exact r0)]
      · have hs0 : dl V i (r + 1) = if V (29 + V (119 + 12 * i + rkd V i r)) = 0 then putC (putN (putC (dl V i r) 44) (V (119 + 12 * i + rkd V i r))) 126 else putN (putC (dl V i r) 44) (V (119 + 12 * i + rkd V i r)) := by
          show (if _ then _ else _) = _
          rw [if_neg r0]
        obtain ⟨T1, c1, c2, c3, c4⟩ := q1.put (n := n) (x := 44) (by omega) (by decide)
        obtain ⟨T', M', s1, s2, s3, s4, s5, s6, s7⟩ := C_dlstep (n := n) (T0 := T0) (fun T M => Fg_X9_describeList_L30 n (nI i) k (nI (r + 1)) T M) hA W hn hi (by rw [putC_1]; omega) c2 (q2.fr (u2_k (by decide)) (u2_k (by decide))) hr (fun k a b d => by rw [u2_k d]; exact q3 k a b d) (by rw [c3]; exact q4) (by rw [c4]; exact q5) rfl
        refine ⟨(T', M'), ⟨by rw [hs0]; exact s2, s3, s4, s5, s6, fun r' h => if e : r' = r then e ▸ s7 else q6 r' (by omega)⟩, ?_⟩
        show Fg_X9_describeList_L30 n (nI i) (k + 1) (nI r) x1 x2 = Fg_X9_describeList_L30 n (nI i) k (nI (r + 1)) T' M'
        rw [← s1, Fg_X9_describeList_L30]
        simp only [hnx, lt_s']
        rw [ix_n (by omega : i < 2147483648), hlen, if_neg hle, if_neg (by rw [litN, n_le (by omega) (by decide)]; exact r0), litN, c1, ogu_s]
  obtain ⟨⟨r1, r2, r3⟩, k1, k2, k3, k4, k5, k6, k7⟩ := key
  exact ⟨r2, r3, by rw [k1]; rw [← k2], k3, k4, k5, k6, k7⟩
theorem R_dl {i : Nat} (hR : RR Mm V) (W : WF c V) (hn : 14 ≤ n) (hi : i < 6) (hT : RLn M (0, fun _ => 0)) (hrk : ∀ r, r < V (59 + 10 * i + 5) → rkd V i r < V (59 + 10 * i + 5)) (hfr : ∀ k, k ≠ 0 → k ≠ 6 → M k = Mm k) :
    ∃ M', F_X10_describeList_L33 n n (nI i) 0 M = some (nI (fin V i).1, M') ∧ RLn M' (fin V i) ∧ (∀ k, k ≠ 0 → k ≠ 6 → M' k = Mm k) ∧ ∀ j, j ≠ 17 → M' 0 j = M 0 j := by
  have hB := W.b
  have hF := W.F
  have hl := W.li hi
  have w1 := (W.mo hi).2.1
  have key : ∃ r, F_X10_describeList_L33 n n (nI i) (nI 0) M = some r ∧ r.1 = nI (fin V i).1 ∧ RLn r.2 (fin V i) ∧ (∀ k, k ≠ 0 → k ≠ 6 → r.2 k = Mm k) ∧ ∀ j, j ≠ 17 → r.2 0 j = M 0 j := by
    refine loopI (fun k r x => F_X10_describeList_L33 n k (nI i) (nI r) x) (fun r x => RLn x (dl V i r) ∧ (∀ k, k ≠ 0 → k ≠ 6 → x k = Mm k) ∧ ∀ j, j ≠ 17 → x 0 j = M 0 j) (fun r => r.1 = nI (fin V i).1 ∧ RLn r.2 (fin V i) ∧ (∀ k, k ≠ 0 → k ≠ 6 → r.2 k = Mm k) ∧ ∀ j, j ≠ 17 → r.2 0 j = M 0 j) 0 (V (59 + 10 * i + 5)) (fun k x hx => ?_) (fun k r x hs hr hx => ?_) n (by omega) (by omega) M ⟨hT, hfr, fun _ _ => rfl⟩
    · obtain ⟨q1, q2, q3⟩ := hx
      have g := dl_gd V i (V (59 + 10 * i + 5))
      have hRx : RR x V := hR.fr (q2 1 (by decide) (by decide))
      by_cases z : V (59 + 10 * i + 1) = 0
      · have ef : fin V i = dl V i (V (59 + 10 * i + 5)) := if_pos z
        refine ⟨(nI (fin V i).1, x), ?_, rfl, by rw [ef]; exact q1, q2, q3⟩
        have e17 : x 0 17 = nI (fin V i).1 := by rw [ef]; exact q1.1
        simp only [F_X10_describeList_L33]
        simp (disch := first | omega | exact hB _) only [R_of, hRx, Nat.le_refl, z, e17, ob_s, ob2_s, chk_t, lt_s', litI, n_add, n_mul, n_sub, inb_n, ix_n, n_le, n_lt, n_eq, n_bit, n_m1_lt, n_m1_eq, n_m1_m, n_ne_m, n_m_ne, n_m_lt0, n_0_le_m, if_true, if_false, eq_self, not_true_eq_false, not_false_eq_true, isB_0, isB_1, Bool.false_eq_true, true_and, and_true, false_and, and_false, and_self, Nat.one_ne_zero, Nat.zero_ne_one, reduceIte]
      · have ef : fin V i = putC (dl V i (V (59 + 10 * i + 5))) 124 := if_neg z
        have z1 : V (59 + 10 * i + 1) = 1 := by omega
        obtain ⟨M', a1, a2, a3, a4⟩ := R_put (n := n) (x := 124) q1 (by omega)
        refine ⟨(nI (fin V i).1, M'), ?_, rfl, by rw [ef]; exact a2, fun k a b => (a3 k a b).trans (q2 k a b), fun j a => (a4 j a).trans (q3 j a)⟩
        have e17 : M' 0 17 = nI (fin V i).1 := by rw [ef]; exact a2.1
        simp only [F_X10_describeList_L33]
        simp (disch := first | omega | exact hB _) only [R_of, hRx, Nat.le_refl, z1, a1, e17, ob_s, ob2_s, chk_t, lt_s', litI, n_add, n_mul, n_sub, inb_n, ix_n, n_le, n_lt, n_eq, n_bit, n_m1_lt, n_m1_eq, n_m1_m, n_ne_m, n_m_ne, n_m_lt0, n_0_le_m, if_true, if_false, eq_self, not_true_eq_false, not_false_eq_true, isB_0, isB_1, Bool.false_eq_true, true_and, and_true, false_and, and_false, and_self, Nat.one_ne_zero, Nat.zero_ne_one, reduceIte]
    · obtain ⟨q1, q2, q3⟩ := hx
      have g := dl_gd V i r
      have hRx : RR x V := hR.fr (q2 1 (by decide) (by decide))
      have hle : ¬ V (59 + 10 * i + 5) ≤ r := by omega
      have hq := hrk r hr
      have hx := W.lf hi hq
      have hrd := R_ranked (n := n) hRx W (by omega) hi (r := r) (by omega)
      rw [if_pos hq] at hrd
      have hof5 : ∀ M, F_X10_of n (nI i) 5 M = some (nI (59 + 10 * i + 5)) := fun M => R_of i 5 M
      have hls : F_X10_listed n (nI i) (nI (rkd V i r)) x = some (nI (119 + 12 * i + rkd V i r)) := R_listed _ _ _
      have b1 : 59 + 10 * i + 5 < 407 := by omega
      have b2 : 119 + 12 * i + rkd V i r < 407 := by omega
      have hle' : ¬ nI (V (59 + 10 * i + 5)) ≤ nI r := by rw [n_le (hB _) (by omega)]; exact hle
      have hnx : nI r + 1 = nI (r + 1) := by rw [litN, n_add]
      have z0 : nI 0 = 0 := rfl
      have z1 : ¬ nI 1 = 0 := by rw [litN, n10]; exact id
      by_cases r0 : r ≤ 0
      · obtain ⟨M1, a1, a2, a3, a4⟩ := R_num (n := n) (x := V (119 + 12 * i + rkd V i r)) q1 (by omega) (by omega)
        have hR1 : RR M1 V := hRx.fr (a3 1 (by decide) (by decide))
        have hN := putN_le (dl V i r) (V (119 + 12 * i + rkd V i r))
        have hon := R_isOn (n := n) hR1 hB (f := V (119 + 12 * i + rkd V i r)) (by omega)
        by_cases z : V (29 + V (119 + 12 * i + rkd V i r)) = 0
        · obtain ⟨M2, b1', b2', b3, b4⟩ := R_put (n := n) (x := 126) a2 (by omega)
          rw [if_pos z] at hon
          refine ⟨M2, ⟨by rw [dl, if_pos z, if_pos r0]; exact b2', fun k a b => by rw [b3 k a b, a3 k a b, q2 k a b], fun j a => by rw [b4 j a, a4 j a, q3 j a]⟩, ?_⟩
          have c0 : nI r ≤ 0 := by rw [litN, n_le (by omega) (by decide)]; exact r0
          have w : F_X10_writes n 126 M1 = some M2 := b1'
          rw [F_X10_describeList_L33, hof5, ob_s, inb_n b1 (by decide), chk_t, ix_n (by omega), hRx _ b1, if_neg hle', hrd, ob_s, hls, ob_s, inb_n b2 (by decide), chk_t, ix_n (by omega), hRx _ b2, lt_s', if_pos c0, a1, ob_s, hon, ob_s, if_pos z0, w, ob_s, lt_s', hnx]
        · rw [if_neg z] at hon
          refine ⟨M1, ⟨by rw [dl, if_neg z, if_pos r0]; exact a2, fun k a b => by rw [a3 k a b, q2 k a b], fun j a => by rw [a4 j a, q3 j a]⟩, ?_⟩
          have c0 : nI r ≤ 0 := by rw [litN, n_le (by omega) (by decide)]; exact r0
          rw [F_X10_describeList_L33, hof5, ob_s, inb_n b1 (by decide), chk_t, ix_n (by omega), hRx _ b1, if_neg hle', hrd, ob_s, hls, ob_s, inb_n b2 (by decide), chk_t, ix_n (by omega), hRx _ b2, lt_s', if_pos c0, a1, ob_s, hon, ob_s, if_neg z1, lt_s', hnx]
      · obtain ⟨M0, c1, c2, c3, c4⟩ := R_put (n := n) (x := 44) q1 (by omega)
        obtain ⟨M1, a1, a2, a3, a4⟩ := R_num (n := n) (x := V (119 + 12 * i + rkd V i r)) c2 (by rw [putC_1]; omega) (by omega)
        have hR1 : RR M1 V := hRx.fr (by rw [a3 1 (by decide) (by decide), c3 1 (by decide) (by decide)])
        have hN := putN_le (putC (dl V i r) 44) (V (119 + 12 * i + rkd V i r))
        rw [putC_1] at hN
        have hon := R_isOn (n := n) hR1 hB (f := V (119 + 12 * i + rkd V i r)) (by omega)
        by_cases z : V (29 + V (119 + 12 * i + rkd V i r)) = 0
        · obtain ⟨M2, b1', b2', b3, b4⟩ := R_put (n := n) (x := 126) a2 (by omega)
          rw [if_pos z] at hon
          refine ⟨M2, ⟨by rw [dl, if_pos z, if_neg r0]; exact b2', fun k a b => by rw [b3 k a b, a3 k a b, c3 k a b, q2 k a b], fun j a => by rw [b4 j a, a4 j a, c4 j a, q3 j a]⟩, ?_⟩
          have c0 : ¬ nI r ≤ 0 := by rw [litN, n_le (by omega) (by decide)]; exact r0
          have w : F_X10_writes n 126 M1 = some M2 := b1'
          have w4 : F_X10_writes n 44 x = some M0 := c1
          rw [F_X10_describeList_L33, hof5, ob_s, inb_n b1 (by decide), chk_t, ix_n (by omega), hRx _ b1, if_neg hle', hrd, ob_s, hls, ob_s, inb_n b2 (by decide), chk_t, ix_n (by omega), hRx _ b2, lt_s', if_neg c0, w4, ob_s, a1, ob_s, hon, ob_s, if_pos z0, w, ob_s, lt_s', hnx]
        · rw [if_neg z] at hon
          refine ⟨M1, ⟨by rw [dl, if_neg z, if_neg r0]; exact a2, fun k a b => by rw [a3 k a b, c3 k a b, q2 k a b], fun j a => by rw [a4 j a, c4 j a, q3 j a]⟩, ?_⟩
          have c0 : ¬ nI r ≤ 0 := by rw [litN, n_le (by omega) (by decide)]; exact r0
          have w4 : F_X10_writes n 44 x = some M0 := c1
          rw [F_X10_describeList_L33, hof5, ob_s, inb_n b1 (by decide), chk_t, ix_n (by omega), hRx _ b1, if_neg hle', hrd, ob_s, hls, ob_s, inb_n b2 (by decide), chk_t, ix_n (by omega), hRx _ b2, lt_s', if_neg c0, w4, ob_s, a1, ob_s, hon, ob_s, if_neg z1, lt_s', hnx]
  obtain ⟨⟨r1, r2⟩, k1, k2, k3, k4, k5⟩ := key
  exact ⟨r2, by rw [← k2]; exact k1, k3, k4, k5⟩
theorem sc_describeList (hn : 2900 ≤ n) : SC_describeList n Rel := by
  intro j T M Mm x1 hj h
  obtain ⟨V, hR, W, hA⟩ := h.core
  obtain ⟨_, ⟨_, _, _, ht, hl, _⟩, _⟩ := id h
  have hB := W.b
  have hM := W.M
  rcases (Classical.em (isL x1 (V 2))).symm with h1 | ⟨i, hi, rfl⟩
  · refine ⟨.inl 2, T, M, nI 0, up2 Mm 0 0 (nI 1), ?_, ?_, fun k hk => Sum.inl.inj hk ▸ rfl, ?_, no_r, fun _ _ => rfl, h.thr hj⟩
    · unfold Fg_X9_describeList
      rw [reqMotion_f hA hB h1]
      rfl
    · unfold F_X10_describeList
      simp (disch := first | omega | exact hB _) only [R_isMotion_f hR hB h1, u2_s, n10, ob_s, ob2_s, chk_t, lt_s', litI, n_add, n_mul, n_sub, inb_n, ix_n, n_le, n_lt, n_eq, n_bit, n_m1_lt, n_m1_eq, n_m1_m, n_ne_m, n_m_ne, n_m_lt0, n_0_le_m, if_true, if_false, eq_self, not_true_eq_false, not_false_eq_true, isB_0, isB_1, Bool.false_eq_true, true_and, and_true, false_and, and_false, and_self, Nat.one_ne_zero, Nat.zero_ne_one, reduceIte]
    · rw [u2_s]; rfl
  have hi6 : i < 6 := by omega
  have hl12 := W.li hi6
  obtain ⟨L, cap, ch, hT, hL, hlen, h32, hrow⟩ := hl.go
  obtain ⟨M1, f1, f2, f3⟩ := C_fill (n := n) hA W (by omega) hi6
  have hT1 : TB T M1 371 373 1 L cap ch := by
    obtain ⟨a1, a2, a3⟩ := hT
    exact ⟨by rw [f3 371 (by decide) (by decide)]; exact a1, by rw [f3 371 (by decide) (by decide)]; exact a2, a3⟩
  obtain ⟨M2, g1, g2, g3⟩ := C_setlen (n := n) hT1
  obtain ⟨T', M', k1, ⟨cap', k2⟩, k3, k4, k5, k6⟩ := C_dl (n := n) (M0 := M) hA W (by omega) hi6 g2 ((QI_0 f2).fr (g3 344 (by decide)) (g3 345 (by decide))) (fun k a b d => by rw [g3 k d, f3 k a b])
  obtain ⟨Mr, r1, r2, r3, r4⟩ := R_dl (n := n) (Mm := Mm) (M := up2 (up2 Mm 0 0 (nI 0)) 0 17 (nI 0)) hR W (by omega) hi6 ⟨u2_s, fun k hk => absurd hk (Nat.not_lt_zero _)⟩ k6 (fun k a b => by rw [u2_k a, u2_k a])
  have hfin : (fin V i).1 ≤ 60 ∧ gd (fin V i) := by
    have g := dl_gd V i (V (59 + 10 * i + 5))
    unfold fin
    split
    · exact ⟨by omega, g.1⟩
    · exact ⟨by rw [putC_1]; omega, gd_put g.1 (by decide)⟩
  refine ⟨.inr (nI (fin V i).1), T', M', nI (fin V i).1, Mr, ?_, ?_, no_l, ?_, fun w hw => (Sum.inr.inj hw).symm, fun k hk => (nomatch hk), h.tx hj (fun k a b d => k3 k a b (by omega)) (fun p a b => by rw [r4 p (by omega), u2_j (by omega), u2_j (by omega)]) (fun k a b d => r3 k a d) (ht.other (k3 370 (by decide) (by decide) (by decide)) (by rw [r4 14 (by decide), u2_j (by decide), u2_j (by decide)]) (r3 5 (by decide) (by decide)) k4 k5) (TX.of k2 hfin.1 r2.1 hfin.2 r2.2)⟩
  · unfold Fg_X9_describeList
    rw [reqMotion_t hA hB hi]
    show chk _ _ = _
    rw [inb_n hi6 (by decide), chk_t, f1, ob_s, litN, g1, ob_s]
    exact k1
  · unfold F_X10_describeList
    rw [R_isMotion_t hR hB hi, ob_s, if_neg (by rw [litN, n10]; exact id), lt_s', litN, u2_s, if_pos rfl, lt_s']
    exact r1
  · rw [r4 0 (by decide), u2_j (by decide), u2_s]; rfl
end DLL
