/-! ===== PURE: the call run ===== -/
section RUNS
variable {n : Nat} {T M Mm : Mem}
theorem C_setlen_t {L cap : Nat} {ch : Nat → Nat} (h : TB T M 370 372 0 L cap ch) : ∃ M', F_J4_setLength_d00df_t n T (nI 0) M = some M' ∧ TB T M' 370 372 0 0 cap (fun _ => 0) ∧ ∀ k, k ≠ 370 → M' k = M k := by
  obtain ⟨h1, h3, hc, hl, h7, hr, hf⟩ := h
  have hcb : cap < 2147483648 := by omega
  have hens : F_J5_ensureCapacityInternal_d00df_t n T (nI 0) M = some () := by
    unfold F_J5_ensureCapacityInternal_d00df_t
    rw [hc, h1, ix_n hcb, litN, sh0r hcb, lt_s', litN, if_pos (by rw [n_sub0 (by decide) hcb]; exact Nat.zero_le _)]
  have h0 : (0 : Int32) ≤ nI 0 := by decide
  have hL0 : nI 0 ≤ nI L := by rw [n_le (by decide) (by omega)]; exact Nat.zero_le _
  unfold F_J4_setLength_d00df_t F_J5_setLength_d00df_t
  rw [if_pos h0, hens, ob_s, h3, if_pos hL0]
  by_cases e : nI L ≤ nI 0
  · rw [if_pos e, lt_s', ob_s]
    exact ⟨_, rfl, ⟨by rw [u2_j (by decide)]; exact h1, u2_s, hc, Nat.zero_le _, h7, fun k hk => absurd hk (Nat.not_lt_zero _), hf⟩, fun k hk => u2_k hk⟩
  · rw [if_neg e, lt_s', lt_s', ob_s]
    exact ⟨_, rfl, ⟨by rw [u2_j (by decide), u2_j (by decide)]; exact h1, u2_s, hc, Nat.zero_le _, h7, fun k hk => absurd hk (Nat.not_lt_zero _), hf⟩, fun k hk => by rw [u2_k hk, u2_k hk]⟩
theorem inl_k {α : Type} {a : Nat} {P : Nat → Prop} (h : P a) : ∀ k, (Sum.inl a : RX α) = .inl k → P k := fun k q => by cases q; exact h
def runK (n : Nat) (M_11 : Mem) : Option (Int32 × Mem) := if M_11 0 18 = 0 then lt' (up2 M_11 0 19 1) (fun M_13 => ob2 (F_X10_commands n M_13) (fun r_16 M_17 => (if (M_17 0 0) = 0 then ob2 (F_X10_ends n r_16 M_17) (fun r_20 M_21 => some (r_20, M_21)) else lt' (up2 M_17 0 3 (r_16 - 1)) (fun M_22 => lt' (up2 M_22 0 0 2) (fun M_24 => ob2 (F_X10_ends n r_16 M_24) (fun r_27 M_28 => some (r_27, M_28))))))) else lt' (up2 M_11 0 2 (M_11 0 15)) (fun M_29 => ob2 (F_X10_fail n 1 M_29) (fun r_32 M_33 => some (r_32, M_33)))
theorem run_eq : F_X10_run n Mm = ob (F_X10_begins n Mm) (fun M_2 => ob2 (F_X10_commands n (up2 (up2 (up2 M_2 0 16 (M_2 0 14)) 0 14 0) 0 19 0)) (fun _ M_11 => runK n M_11)) := rfl
theorem sc_run (hn : 2900 ≤ n) : SC_run n Rel := by
  intro j T M Mm hj h
  obtain ⟨_, ⟨⟨sv, Vs, s1, s2, s3, s4⟩, g1, g2, ht, hl, g5, g6⟩, V, hR, W, hA, cnt, past, hH⟩ := h
  obtain ⟨L, cap, ch, hT, hL, hlen, h32, hrow⟩ := ht.go
  have hch : ∀ k, k < L → ch k ≤ 126 := fun k hk => (hT.2.2.2.2.2.1 k hk).2
  obtain ⟨l, r, hps⟩ := PS_ex (ch := ch) (L := L) (L + 1) 0 (by omega) (Nat.zero_le _)
  have hll := PS_len l 0 r hps (Nat.zero_le _)
  -- the class reads
  obtain ⟨Mc, c1, c2, c3, c4, c5⟩ := C_read_go (n := n) (T := T) (by omega) hL h32 l 0 0 n (up2 (up2 M 346 1 (nI 0)) 346 2 (nI 0)) r hps (Nat.le_refl _) (Nat.zero_le _) (by omega) (hT.fr (by rw [u2_k (by decide), u2_k (by decide)])) (by rw [u2_j (by decide), u2_s]) u2_s
  have hread : F_X4_read n T 346 M = some (nI (if r = none then 1 else 0), Mc) := c1
  have k2 : ∀ z, z < 346 ∨ 370 ≤ z → Mc z = M z := fun z hz => by rw [c2 z (by omega) (by omega), u2_k (by omega), u2_k (by omega)]
  obtain ⟨Md, d1, d2, d3⟩ := C_setlen_t (n := n) (hT.fr (k2 370 (by omega)))
  have kd2 : ∀ z, z < 346 ∨ 370 < z → Md z = M z := fun z hz => by rw [d3 z (by omega), k2 z (by omega)]
  -- the reference begins
  obtain ⟨M2, b1, b2, b3, b4, b5⟩ := R_begins (n := n) (Mm := Mm) (by omega)
  let M3 := up2 (up2 (up2 M2 0 16 (M2 0 14)) 0 14 (nI 0)) 0 19 (nI 0)
  have e3 : M3 = up2 (up2 (up2 M2 0 16 (M2 0 14)) 0 14 (nI 0)) 0 19 (nI 0) := rfl
  let M4 := up2 (up2 M3 0 15 (nI 0)) 0 18 (nI 0)
  have e4 : M4 = up2 (up2 M3 0 15 (nI 0)) 0 18 (nI 0) := rfl
  have f4 : ∀ z, z ≠ 0 → M4 z = M2 z := fun z hz => by rw [e4, e3, u2_k hz, u2_k hz, u2_k hz, u2_k hz, u2_k hz]
  have q4 : ∀ i, i ≠ 14 → i ≠ 15 → i ≠ 16 → i ≠ 18 → i ≠ 19 → M4 0 i = M2 0 i := fun i a b c d e => by rw [e4, e3, u2_j d, u2_j b, u2_j e, u2_j a, u2_j c]
  have q14 : M4 0 14 = nI 0 := by rw [e4, e3, u2_j (by decide), u2_j (by decide), u2_j (by decide), u2_s]
  have q16 : M4 0 16 = nI L := by rw [e4, e3, u2_j (by decide), u2_j (by decide), u2_j (by decide), u2_j (by decide), u2_s, b3 14 (by decide)]; exact hlen
  have hT4 : RT M4 L 0 ch := ⟨hL, q16, by rw [e4, u2_j (by decide), u2_s], u2_s, fun k hk => by rw [f4 5 (by decide), b5 5 (by decide) (by decide)]; exact hrow k hk, hch⟩
  have q00 : M4 0 0 = nI 0 := by rw [q4 0 (by decide) (by decide) (by decide) (by decide) (by decide)]; exact b2
  have r8 : M4 8 = ups wdL 59 := by rw [f4 8 (by decide), b5 8 (by decide) (by decide)]; exact g5
  have r9 : M4 9 = ups waL 12 := by rw [f4 9 (by decide), b5 9 (by decide) (by decide)]; exact g6
  obtain ⟨M5, x, p1, p2, p3, p4⟩ := R_read_go (n := n) (by omega) l 0 n (nI 1) M4 r hps hT4 (Nat.zero_le _) r8 r9 (by rw [e4, u2_j (by decide), u2_j (by decide), e3, u2_s]) q00 (by omega)
  have hc1 : F_X10_commands n M3 = some (x, M5) := p1
  have z5 : ∀ z, z ≠ 0 → z ≠ 2 → z ≠ 7 → M5 z = Mm z := fun z h0 h2 h7 => by rw [p2.1 z h0 h7, f4 z h0, b5 z h0 h2]
  have y5 : ∀ i, i ≠ 0 → i ≠ 14 → i ≠ 15 → i ≠ 16 → i ≠ 18 → i ≠ 19 → M5 0 i = Mm 0 i := fun i a b c d e f => by rw [p2.2 i c e, q4 i b c d e f, b3 i a]
  have y14 : M5 0 14 = nI 0 := by rw [p2.2 14 (by decide) (by decide)]; exact q14
  have hrun0 : F_X10_run n Mm = runK n M5 := by
    rw [run_eq, b1, ob_s]
    show ob2 (F_X10_commands n M3) _ = _
    rw [hc1, ob2_s]
  have hcls0 : F_X9_run n T M = (if nI (if r = none then 1 else 0) = 0 then lt' (up2 Md 0 9 (Md 346 2)) (fun M_19 => some (.inl 1, M_19)) else ob (F_X2_copyFrom n 32 1 Md) (fun M_8 => ob2 (F_X9_carryOutCommands n M_8) (fun r_10 M_11 => (if (M_11 346 1) ≤ r_10 then ob (F_X5_push n 94 32 M_11) (fun M_14 => some (.inr r_10, M_14)) else ob (F_X2_copyFrom n 1 32 M_11) (fun M_16 => lt' (up2 M_16 0 10 r_10) (fun M_17 => some (.inl 0, M_17))))))) := by
    have d1' : F_J4_setLength_d00df_t n T 0 Mc = some Md := d1
    unfold F_X9_run
    rw [hread, ob2_s, d1', ob_s]
  have hmono : ∀ {M' Mm' : Mem} {V' : Nat → Nat} {cnt' : Nat} {past' : Nat → Nat → Nat}, (∀ z, 63 ≤ z → z < 94 → M' z = M z) → M' 0 3 = M 0 3 → ER (M' 0 9) (Mm' 0 2) → ER (M' 0 10) (Mm' 0 3) → M' 370 = Md 370 → M' 371 = M 371 → Mm' 0 4 = Mm 0 4 → Mm' 0 14 = nI 0 → Mm' 0 17 = Mm 0 17 → Mm' 3 = Mm 3 → Mm' 6 = Mm 6 → Mm' 8 = Mm 8 → Mm' 9 = Mm 9 → RR Mm' V' → WF (64 * (j + 1)) V' → AR M' 1 V' → HR (64 * (j + 1)) M' Mm' cnt' past' → Rel (j + 1) T M' Mm' := by
    intro M' Mm' V' cnt' past' hs h3 h9 h10 ht' hl' m4 m14 m17 w3 w6 w8 w9 hR' W' hA' hH'
    exact ⟨by omega, ⟨⟨sv, Vs, s1, by rw [m4]; exact s2, by rw [h3]; exact s3, fun q => ⟨(s4 q).1.mono (by omega), (s4 q).2.1.cong (s4 q).1 hs, by rw [w3]; exact (s4 q).2.2⟩⟩, h9, h10, TX.of (d2.fr ht') (Nat.zero_le _) m14 (fun k hk => absurd hk (Nat.not_lt_zero _)) (fun k hk => absurd hk (Nat.not_lt_zero _)), hl.fr hl' m17 w6, w8.trans g5, w9.trans g6⟩, V', hR', W', hA', cnt', past', hH'⟩
  cases r with
  | some e =>
    obtain ⟨p5, p6⟩ := p4 e rfl
    have he := PS_e l 0 e hps (Nat.zero_le _)
    refine ⟨.inl 1, up2 Md 0 9 (nI e), 0, up2 (up2 M5 0 2 (nI e)) 0 0 1, ?_, ?_, inl_k (.inl rfl), u2_s, no_r, ?_⟩
    · have q : Md 346 2 = nI e := by rw [d3 346 (by decide)]; exact c5 e rfl
      rw [hcls0, if_pos (by rfl), q]
      rfl
    · rw [hrun0, runK, p5, if_neg nIz1, p6]
      rfl
    · refine hmono (V' := V) (cnt' := cnt) (past' := past) (fun z a b => by rw [u2_k (by omega)]; exact kd2 z (by omega)) (by rw [u2_j (by decide), kd2 0 (by omega)]) ?_ ?_ (u2_k (by decide)) (by rw [u2_k (by decide)]; exact kd2 371 (by omega)) ?_ ?_ ?_ ?_ ?_ ?_ ?_ ?_ (W.mono (by omega)) (hA.cong W (fun z a b => by rw [u2_k (by omega)]; exact kd2 z (by omega))) ?_
      · rw [u2_s, u2_j (by decide), u2_s]
        exact ⟨rfl, .inr ⟨e, by omega, rfl⟩⟩
      · rw [u2_j (by decide), kd2 0 (by omega), u2_j (by decide), u2_j (by decide), y5 3 (by decide) (by decide) (by decide) (by decide) (by decide) (by decide)]
        exact g2
      · rw [u2_j (by decide), u2_j (by decide)]; exact y5 4 (by decide) (by decide) (by decide) (by decide) (by decide) (by decide)
      · rw [u2_j (by decide), u2_j (by decide)]; exact y14
      · rw [u2_j (by decide), u2_j (by decide)]; exact y5 17 (by decide) (by decide) (by decide) (by decide) (by decide) (by decide)
      · rw [u2_k (by decide), u2_k (by decide)]; exact z5 3 (by decide) (by decide) (by decide)
      · rw [u2_k (by decide), u2_k (by decide)]; exact z5 6 (by decide) (by decide) (by decide)
      · rw [u2_k (by decide), u2_k (by decide)]; exact z5 8 (by decide) (by decide) (by decide)
      · rw [u2_k (by decide), u2_k (by decide)]; exact z5 9 (by decide) (by decide) (by decide)
      · exact hR.fr (by rw [u2_k (by decide), u2_k (by decide)]; exact z5 1 (by decide) (by decide) (by decide))
      · exact hH.fr (by omega) (fun z a b => by rw [u2_k (by omega)]; exact kd2 z (by omega)) (by rw [u2_j (by decide), u2_j (by decide)]; exact y5 1 (by decide) (by decide) (by decide) (by decide) (by decide) (by decide)) (by rw [u2_k (by decide), u2_k (by decide)]; exact z5 4 (by decide) (by decide) (by decide))
  | none =>
    have p5 := p3 rfl
    obtain ⟨c6, c7⟩ := c4 rfl
    have hAd : AR Md 1 V := hA.cong W (fun z a b => kd2 z (by omega))
    obtain ⟨Me, m1, m2, m3⟩ := X2_copy (n := n) (a := 32) (o := 1) W (by omega) hAd (by omega)
    let M6 := up2 (up2 (up2 M5 0 19 (nI 1)) 0 15 (nI 0)) 0 18 (nI 0)
    have e6 : M6 = up2 (up2 (up2 M5 0 19 (nI 1)) 0 15 (nI 0)) 0 18 (nI 0) := rfl
    have f6 : ∀ z, z ≠ 0 → M6 z = M5 z := fun z hz => by rw [e6, u2_k hz, u2_k hz, u2_k hz]
    have y6 : ∀ i, i ≠ 15 → i ≠ 18 → i ≠ 19 → M6 0 i = M5 0 i := fun i a b c => by rw [e6, u2_j b, u2_j a, u2_j c]
    have hT6 : RT M6 L 0 ch := ⟨hL, by rw [y6 16 (by decide) (by decide) (by decide), p2.2 16 (by decide) (by decide)]; exact q16, by rw [e6, u2_j (by decide), u2_s], u2_s, fun k hk => by rw [f6 5 (by decide), z5 5 (by decide) (by decide) (by decide)]; exact hrow k hk, hch⟩
    obtain ⟨x2, M7, Mf, o1, o2, o3, o4, o5⟩ := run_go (n := n) hn l 0 0 n n (64 * j) V M6 Me hps (Nat.le_refl _) hT6 (Nat.zero_le _) (by rw [f6 8 (by decide), z5 8 (by decide) (by decide) (by decide)]; exact g5) (by rw [f6 9 (by decide), z5 9 (by decide) (by decide) (by decide)]; exact g6) (by rw [e6, u2_j (by decide), u2_j (by decide), u2_s]) (by rw [y6 0 (by decide) (by decide) (by decide), p2.2 0 (by decide) (by decide)]; exact q00) (by omega) (by omega) (by omega) (hR.fr (by rw [f6 1 (by decide), z5 1 (by decide) (by decide) (by decide)])) W (hAd.cong W (fun z a b => m3 z (by omega))) (by rw [m3 346 (by omega), d3 346 (by decide)]; exact c6) ((c7.cong l 0 (fun z a b => by rw [d3 z (by omega)])).cong l 0 (fun z a b => m3 z (by omega)))
    have hc2 : F_X10_commands n (up2 M5 0 19 (nI 1)) = some (nI x2, M7) := o1
    have z7 : ∀ z, z ≠ 0 → z ≠ 1 → z ≠ 2 → z ≠ 7 → M7 z = Mm z := fun z h0 h1 h2 h7 => by rw [o2 z h0 h1 h7, f6 z h0, z5 z h0 h2 h7]
    have y7 : ∀ i, i ≠ 0 → i ≠ 14 → i ≠ 15 → i ≠ 16 → i ≠ 18 → i ≠ 19 → M7 0 i = Mm 0 i := fun i a b c d e f => by rw [o3 i a c e, y6 i c e f, y5 i a b c d e f]
    have y714 : M7 0 14 = nI 0 := by rw [o3 14 (by decide) (by decide) (by decide), y6 14 (by decide) (by decide) (by decide)]; exact y14
    have v7 : ∀ k, k < 407 → M7 2 k = nI (V k) := fun k hk => by rw [o2 2 (by decide) (by decide) (by decide), f6 2 (by decide), p2.1 2 (by decide) (by decide), f4 2 (by decide), b4 k hk]; exact hR k hk
    have kf : ∀ z, (z < 1 ∨ 63 ≤ z) → z ≠ 370 → (z < 346 ∨ 370 < z) → Mf z = M z := fun z a b c => by rw [o4 z (by omega), m3 z (by omega), kd2 z c]
    have hfc : F_X9_carryOutCommands n Me = F_X9_carryOutCommands_L2 n n (nI 0) Me := rfl
    have h346 : Mf 346 1 = nI l.length := by rw [o4 346 (by omega), m3 346 (by omega), d3 346 (by decide), c6, Nat.zero_add]
    have c00 : hH.1 = hH.1 := rfl
    obtain ⟨w1, w2, w3, ⟨nx, t1, t2, t3⟩, w5⟩ := hH
    rcases o5 with ⟨q1, q2, q3, V', q4', q5, q6⟩ | ⟨y, t, q1, q2, q3, q4', q5, q6, q7⟩
    · rw [Nat.zero_add] at q1 q3
      have hA32 : AR Mf 32 V := m2.cong W (fun z a b => o4 z (by omega))
      obtain ⟨Mg, u1, u2, u3, nx', u4, u5, u6⟩ := C_push (n := n) (o := 32) (M := Mf) W (by omega) hA32 (by decide) (fun i hi => (w5 i hi).1) w1 (by rw [kf 94 (by omega) (by decide) (by omega)]; exact w3) t1 (by rw [kf 94 (by omega) (by decide) (by omega)]; exact t2) (fun i hi => (t3 i hi).cong (w5 i hi).1 (fun z a b => kf z (by omega) (by omega) (by omega)))
      obtain ⟨Mh, v1, v2, v3, v4, v5⟩ := R_ends (n := n) (M := M7) (cnt := cnt) (past := past) (V := V) (x1 := nI x2) q2 w1 (by rw [y7 1 (by decide) (by decide) (by decide) (by decide) (by decide) (by decide)]; exact w2) (fun i hi k hk => by rw [z7 4 (by decide) (by decide) (by decide) (by decide)]; exact (w5 i hi).2 k hk) v7 (by omega)
      refine ⟨.inr (nI l.length), Mg, nI x2, Mh, ?_, ?_, no_l, ?_, fun w hw => by rw [← Sum.inr.inj hw, q1], ?_⟩
      · rw [hcls0, if_neg (by decide), m1, ob_s, hfc, q3, ob2_s, h346, if_pos (Int32.le_refl _), u1, ob_s]
      · rw [hrun0, runK, p5, if_pos (by rfl), lt_s']
        show ob2 (F_X10_commands n (up2 M5 0 19 (nI 1))) _ = _
        rw [hc2, ob2_s, q2, if_pos (by rfl), v1, ob2_s]
      · rw [v5 0 (by decide), q2]; rfl
      · refine hmono (V' := V') (cnt' := (if cnt = 8 then 8 else cnt + 1)) (past' := pushP cnt past V) (fun z a b => by rw [u2 z (by omega)]; exact kf z (by omega) (by omega) (by omega)) (by rw [u2 0 (by omega), kf 0 (by omega) (by decide) (by omega)]) ?_ ?_ (by rw [u2 370 (by omega), o4 370 (by omega), m3 370 (by omega)]) (by rw [u2 371 (by omega), kf 371 (by omega) (by decide) (by omega)]) ?_ ?_ ?_ ?_ ?_ ?_ ?_ ?_ (q5.mono (by omega)) (q6.cong q5 (fun z a b => u2 z (by omega))) ?_
        · rw [u2 0 (by omega), kf 0 (by omega) (by decide) (by omega), v5 2 (by decide), y7 2 (by decide) (by decide) (by decide) (by decide) (by decide) (by decide)]; exact g1
        · rw [u2 0 (by omega), kf 0 (by omega) (by decide) (by omega), v5 3 (by decide), y7 3 (by decide) (by decide) (by decide) (by decide) (by decide) (by decide)]; exact g2
        · rw [v5 4 (by decide)]; exact y7 4 (by decide) (by decide) (by decide) (by decide) (by decide) (by decide)
        · rw [v5 14 (by decide)]; exact y714
        · rw [v5 17 (by decide)]; exact y7 17 (by decide) (by decide) (by decide) (by decide) (by decide) (by decide)
        · rw [v4 3 (by decide) (by decide)]; exact z7 3 (by decide) (by decide) (by decide) (by decide)
        · rw [v4 6 (by decide) (by decide)]; exact z7 6 (by decide) (by decide) (by decide) (by decide)
        · rw [v4 8 (by decide) (by decide)]; exact z7 8 (by decide) (by decide) (by decide) (by decide)
        · rw [v4 9 (by decide) (by decide)]; exact z7 9 (by decide) (by decide) (by decide) (by decide)
        · exact q4'.fr (v4 1 (by decide) (by decide))
        · exact ⟨by split <;> omega, v2, u3, ⟨nx', u4, u5, u6⟩, fun i hi => ⟨(pushP_WF W (fun i hi => (w5 i hi).1) i hi).mono (by omega), v3 i hi⟩⟩
    · rw [Nat.zero_add] at q2
      have hA32 : AR Mf 32 V := m2.cong W (fun z a b => o4 z (by omega))
      obtain ⟨Mg, u1, u2, u3⟩ := X2_copy (n := n) (a := 1) (o := 32) W (by omega) hA32 (by omega)
      have ey : nI x2 - 1 = nI y := by rw [q3, litN]; exact n_sub (Nat.le_add_left _ _)
      let M8 := up2 (up2 M7 0 3 (nI y)) 0 0 (nI 2)
      have e8 : M8 = up2 (up2 M7 0 3 (nI y)) 0 0 (nI 2) := rfl
      have f8 : ∀ z, z ≠ 0 → M8 z = M7 z := fun z hz => by rw [e8, u2_k hz, u2_k hz]
      have y8 : ∀ i, i ≠ 0 → i ≠ 3 → M8 0 i = M7 0 i := fun i a b => by rw [e8, u2_j a, u2_j b]
      obtain ⟨Mh, v1, v2, v3⟩ := R_ends_no (n := n) (M := M8) (x1 := nI x2) (by rw [e8, u2_s]; decide) (by omega)
      refine ⟨.inl 0, up2 Mg 0 10 (nI y), nI 0, Mh, ?_, ?_, inl_k (.inr rfl), ?_, no_r, ?_⟩
      · rw [hcls0, if_neg (by decide), m1, ob_s, hfc, q7, ob2_s, h346, if_neg (by rw [n_le (by omega) (by omega)]; omega), u1, ob_s, lt_s']
      · have hne : ¬ (nI t = 0) := by rw [litN, n_eq (by omega) (by decide)]; exact q4'
        rw [hrun0, runK, p5, if_pos (by rfl), lt_s']
        show ob2 (F_X10_commands n (up2 M5 0 19 (nI 1))) _ = _
        rw [hc2, ob2_s, q6, if_neg hne, ey, lt_s', lt_s']
        show ob2 (F_X10_ends n (nI x2) M8) _ = _
        rw [v1, ob2_s]
      · rw [v3 0 (by decide), e8, u2_s]; rfl
      · refine hmono (V' := V) (cnt' := cnt) (past' := past) (fun z a b => by rw [u2_k (by omega), u3 z (by omega)]; exact kf z (by omega) (by omega) (by omega)) (by rw [u2_j (by decide), u3 0 (by omega), kf 0 (by omega) (by decide) (by omega)]) ?_ ?_ (by rw [u2_k (by decide), u3 370 (by omega), o4 370 (by omega), m3 370 (by omega)]) (by rw [u2_k (by decide), u3 371 (by omega), kf 371 (by omega) (by decide) (by omega)]) ?_ ?_ ?_ ?_ ?_ ?_ ?_ ?_ (W.mono (by omega)) (u2.cong W (fun z a b => u2_k (by omega))) ?_
        · rw [u2_j (by decide), u3 0 (by omega), kf 0 (by omega) (by decide) (by omega), v3 0 (by decide), y8 2 (by decide) (by decide), y7 2 (by decide) (by decide) (by decide) (by decide) (by decide) (by decide)]; exact g1
        · rw [u2_s, v3 0 (by decide), e8, u2_j (by decide), u2_s]
          exact ⟨rfl, .inr ⟨y, by omega, rfl⟩⟩
        · rw [v3 0 (by decide), y8 4 (by decide) (by decide)]; exact y7 4 (by decide) (by decide) (by decide) (by decide) (by decide) (by decide)
        · rw [v3 0 (by decide), y8 14 (by decide) (by decide)]; exact y714
        · rw [v3 0 (by decide), y8 17 (by decide) (by decide)]; exact y7 17 (by decide) (by decide) (by decide) (by decide) (by decide) (by decide)
        · rw [v3 3 (by decide), f8 3 (by decide)]; exact z7 3 (by decide) (by decide) (by decide) (by decide)
        · rw [v3 6 (by decide), f8 6 (by decide)]; exact z7 6 (by decide) (by decide) (by decide) (by decide)
        · rw [v3 8 (by decide), f8 8 (by decide)]; exact z7 8 (by decide) (by decide) (by decide) (by decide)
        · rw [v3 9 (by decide), f8 9 (by decide)]; exact z7 9 (by decide) (by decide) (by decide) (by decide)
        · intro k hk
          rw [v2 k hk, f8 2 (by decide)]
          exact v7 k hk
        · refine ⟨w1, by rw [v3 0 (by decide), y8 1 (by decide) (by decide), y7 1 (by decide) (by decide) (by decide) (by decide) (by decide) (by decide)]; exact w2, by rw [u2_k (by decide), u3 94 (by omega), kf 94 (by omega) (by decide) (by omega)]; exact w3, ⟨nx, t1, by rw [u2_k (by decide), u3 94 (by omega), kf 94 (by omega) (by decide) (by omega)]; exact t2, fun i hi => (t3 i hi).cong (w5 i hi).1 (fun z a b => by rw [u2_k (by omega), u3 z (by omega)]; exact kf z (by omega) (by omega) (by omega))⟩, fun i hi => ⟨(w5 i hi).1.mono (by omega), by rw [v3 4 (by decide), f8 4 (by decide), z7 4 (by decide) (by decide) (by decide) (by decide)]; exact (w5 i hi).2⟩⟩
end RUNS
