/-! ===== PURE: run ===== -/
section RUNP
variable {n : Nat} {T M Mm : Mem} {ch : Nat → Nat} {L : Nat}
theorem noc_le {p e : Nat} (hp : p ≤ L) (h : noc ch L p e) : e ≤ L := by
  rcases h with ⟨d, h1, h2, h3, h4⟩ | ⟨h1, m, h2, ⟨d, h3, h4⟩, h5⟩
  · rw [h4]
    exact pf_le (tl d) _ 0 g0 (wl_le hp h2)
  · by_cases z : m = 0
    · omega
    · have := cpf_at (ch := ch) (L := L) (f := wd d) (p := p) (i := m - 1) (by omega)
      omega
theorem PS_e : ∀ (l : List (Nat × (Nat → Nat))) p e, PS ch L l p (some e) → p ≤ L → e ≤ L
  | [], p, e, ⟨e', h1, h2⟩, hp => by rw [Option.some.inj h2]; exact noc_le hp h1
  | (d, g) :: l, p, e, ⟨p', h1, h2⟩, hp => by
    have b := okc_le hp h1
    rcases h2 with ⟨_, _, h⟩ | ⟨_, _, _, h⟩ | ⟨a, _, h⟩
    · exact nomatch h
    · rw [Option.some.inj h]; exact b.2
    · exact PS_e l (p' + 1) e h (by omega)
theorem pp83_le {p : Nat} : (pp ch L 83 p).2.2 ≤ 1 := by
  have e : pp ch L 83 p = if p < L ∧ ch p = 43 then (1, p + 1, 1) else if p < L ∧ ch p = 45 then (1, p + 1, 0) else (0, p, 0) := rfl
  rw [e]
  split
  · exact Nat.le_refl _
  · split
    · exact Nat.zero_le _
    · exact Nat.zero_le _
theorem okc_9 {p p' : Nat} {g : Nat → Nat} (h : okc ch L p 9 p' g) : g 2 ≤ 1 := by
  obtain ⟨_, _, h3, _, h5⟩ := h
  have et : tl 9 = [68, 32, 78, 83, 68] := rfl
  rw [et] at h3 h5
  rw [h5]
  generalize p + (wd 9).length = q at h3 ⊢
  by_cases z1 : (pp ch L 68 q).1 = 0
  · rw [pf_no z1] at h3; exact absurd rfl h3
  rw [pf_go z1] at h3 ⊢
  generalize (pp ch L 68 q).2.1 = q1 at h3 ⊢
  by_cases z2 : (pp ch L 32 q1).1 = 0
  · rw [pf_no z2] at h3; exact absurd rfl h3
  rw [pf_go z2] at h3 ⊢
  generalize (pp ch L 32 q1).2.1 = q2 at h3 ⊢
  by_cases z3 : (pp ch L 78 q2).1 = 0
  · rw [pf_no z3] at h3; exact absurd rfl h3
  rw [pf_go z3] at h3 ⊢
  generalize (pp ch L 78 q2).2.1 = q3 at h3 ⊢
  by_cases z4 : (pp ch L 83 q3).1 = 0
  · rw [pf_no z4] at h3; exact absurd rfl h3
  rw [pf_go z4] at h3 ⊢
  have hv := pp83_le (ch := ch) (L := L) (p := q3)
  generalize (pp ch L 83 q3).2.1 = q4 at h3 ⊢
  by_cases z5 : (pp ch L 68 q4).1 = 0
  · rw [pf_no z5] at h3; exact absurd rfl h3
  rw [pf_go z5]
  exact hv
theorem does_0 {a b c s : Int32} : F_X10_does n (nI 0) a b c s M = F_X10_adds n a b M := by
  rw [F_X10_does, if_pos (by decide)]
  exact ob2_id _
theorem does_1 {a b c s : Int32} : F_X10_does n (nI 1) a b c s M = F_X10_addsPad n a M := by
  rw [F_X10_does, if_neg (by decide), if_pos (by decide)]
  exact ob2_id _
theorem does_2 {a b c s : Int32} : F_X10_does n (nI 2) a b c s M = F_X10_hops n a b M := by
  rw [F_X10_does, if_neg (by decide), if_neg (by decide), if_pos (by decide)]
  exact ob2_id _
theorem does_3 {a b c s : Int32} : F_X10_does n (nI 3) a b c s M = F_X10_dives n a M := by
  rw [F_X10_does, if_neg (by decide), if_neg (by decide), if_neg (by decide), if_pos (by decide)]
  exact ob2_id _
theorem does_4 {a b c s : Int32} : F_X10_does n (nI 4) a b c s M = F_X10_moves n a M := by
  rw [F_X10_does, if_neg (by decide), if_neg (by decide), if_neg (by decide), if_neg (by decide), if_pos (by decide)]
  exact ob2_id _
theorem does_5 {a b c s : Int32} : F_X10_does n (nI 5) a b c s M = F_X10_signs n a b M := by
  rw [F_X10_does, if_neg (by decide), if_neg (by decide), if_neg (by decide), if_neg (by decide), if_neg (by decide), if_pos (by decide)]
  exact ob2_id _
theorem does_6 {a b c s : Int32} : F_X10_does n (nI 6) a b c s M = F_X10_strikes n a b M := by
  rw [F_X10_does, if_neg (by decide), if_neg (by decide), if_neg (by decide), if_neg (by decide), if_neg (by decide), if_neg (by decide), if_pos (by decide)]
  exact ob2_id _
theorem does_7 {a b c s : Int32} : F_X10_does n (nI 7) a b c s M = F_X10_calls n a M := by
  rw [F_X10_does, if_neg (by decide), if_neg (by decide), if_neg (by decide), if_neg (by decide), if_neg (by decide), if_neg (by decide), if_neg (by decide), if_pos (by decide)]
  exact ob2_id _
theorem does_8 {a b c s : Int32} : F_X10_does n (nI 8) a b c s M = F_X10_backs n a b M := by
  rw [F_X10_does, if_neg (by decide), if_neg (by decide), if_neg (by decide), if_neg (by decide), if_neg (by decide), if_neg (by decide), if_neg (by decide), if_neg (by decide), if_pos (by decide)]
  exact ob2_id _
theorem does_9 {a b c s : Int32} : F_X10_does n (nI 9) a b c s M = F_X10_croaks n a b c s M := by
  rw [F_X10_does, if_neg (by decide), if_neg (by decide), if_neg (by decide), if_neg (by decide), if_neg (by decide), if_neg (by decide), if_neg (by decide), if_neg (by decide), if_neg (by decide), if_pos (by decide)]
  exact ob2_id _
theorem does_10 {a b c s : Int32} : F_X10_does n (nI 10) a b c s M = F_X10_decides n a M := by
  rw [F_X10_does, if_neg (by decide), if_neg (by decide), if_neg (by decide), if_neg (by decide), if_neg (by decide), if_neg (by decide), if_neg (by decide), if_neg (by decide), if_neg (by decide), if_neg (by decide)]
  exact ob2_id _
theorem does_fit {d : Nat} (hd : d < 11) {a b c s b' c' s' : Int32} (h1 : 1 < nis (tl d) → b = b') (h2 : 2 < nis (tl d) → s = s') (h3 : 3 < nis (tl d) → c = c') : F_X10_does n (nI d) a b c s M = F_X10_does n (nI d) a b' c' s' M := by
  rcases (by omega : d = 0 ∨ d = 1 ∨ d = 2 ∨ d = 3 ∨ d = 4 ∨ d = 5 ∨ d = 6 ∨ d = 7 ∨ d = 8 ∨ d = 9 ∨ d = 10) with q | q | q | q | q | q | q | q | q | q | q <;> subst q
  · rw [does_0, does_0, h1 (by decide)]
  · rw [does_1, does_1]
  · rw [does_2, does_2, h1 (by decide)]
  · rw [does_3, does_3]
  · rw [does_4, does_4]
  · rw [does_5, does_5, h1 (by decide)]
  · rw [does_6, does_6, h1 (by decide)]
  · rw [does_7, does_7]
  · rw [does_8, does_8, h1 (by decide)]
  · rw [h1 (by decide), h2 (by decide), h3 (by decide)]
  · rw [does_10, does_10]
theorem nis_tl : ∀ d, d < 11 → 0 < nis (tl d) ∧ (d = 9 → nis (tl d) = 4) := by decide
/-- a command read by both is done by both -/
theorem cmd_use {c o1 d : Nat} {V g : Nat → Nat} (hR : RR Mm V) (W : WF c V) (hc : c < 60000) (hn : 2900 ≤ n) (hA : AR M 1 V) (hd : d < 11) (hC : CMD M o1 d g) (hs : d = 9 → g 2 ≤ 1) : CmdR n c V o1 M Mm (F_X10_does n (nI d) (nI (g 0)) (nI (g 1)) (nI (g 3)) (nI (g 2)) Mm) := by
  have ht := nis_tl d hd
  have h := cmd_all (s := g 2) hR W hc hn hA hd hC.1 (fun q => ⟨hs q, hC.2 2 (by have := ht.2 q; omega)⟩)
  rw [hC.2 0 ht.1] at h
  rw [does_fit (b' := M (o1 + 1) 1) (c' := M (o1 + 1) 3) (s' := nI (g 2)) hd (fun q => (hC.2 1 q).symm) (fun _ => rfl) (fun q => (hC.2 3 q).symm)]
  exact h
theorem RT.row {p : Nat} {Mm' : Mem} (h : RT Mm L p ch) (e0 : Mm' 0 = Mm 0) (e5 : Mm' 5 = Mm 5) : RT Mm' L p ch := by
  unfold RT
  rw [e0, e5]
  exact h
/-- the second reading of the reference, and the class's carrying out -/
theorem run_go (hn : 2900 ≤ n) : ∀ (l : List (Nat × (Nat → Nat))) (p i k kc c : Nat) (V : Nat → Nat) (Mm M : Mem), PS ch L l p none → 6 * i ≤ p → RT Mm L p ch → p ≤ L → Mm 8 = ups wdL 59 → Mm 9 = ups waL 12 → Mm 0 19 = nI 1 → Mm 0 0 = nI 0 → l.length < k → l.length < kc → c + l.length < 60000 → RR Mm V → WF c V → AR M 1 V → M 346 1 = nI (i + l.length) → CmdsAt M i l →
    ∃ x Mm' M', ob (F_X10_command n Mm) (fun M1 => F_X10_commands_L16 n k (nI (i + 1)) M1) = some (nI x, Mm') ∧ (∀ z, z ≠ 0 → z ≠ 1 → z ≠ 7 → Mm' z = Mm z) ∧ (∀ j, j ≠ 0 → j ≠ 15 → j ≠ 18 → Mm' 0 j = Mm 0 j) ∧ (∀ z, z < 1 ∨ 1 + 31 ≤ z → M' z = M z) ∧
      ((x = i + l.length ∧ Mm' 0 0 = nI 0 ∧ F_X9_carryOutCommands_L2 n kc (nI i) M = some (nI (i + l.length), M') ∧ ∃ V', RR Mm' V' ∧ WF (c + l.length) V' ∧ AR M' 1 V') ∨
       ∃ y t, i ≤ y ∧ y < i + l.length ∧ x = y + 1 ∧ t ≠ 0 ∧ t < 100 ∧ Mm' 0 0 = nI t ∧ F_X9_carryOutCommands_L2 n kc (nI i) M = some (nI y, M'))
  | [], p, i, k, kc, c, V, Mm, M, ⟨e, _, hr⟩, _, _, _, _, _, _, _, _, _, _, _, _, _, _, _ => nomatch hr
  | (d, g) :: l, p, i, k, kc, c, V, Mm, M, hps, hip, h, hp, h8, h9, h19, h00, hk, hkc, hcc, hR, W, hA, h346, hC => by
    obtain ⟨p', hok, hc⟩ := hps
    have b := okc_le hp hok
    have hL := h.1
    rw [List.length_cons] at hk hkc hcc h346
    obtain ⟨k, rfl⟩ : ∃ k', k = k' + 1 := ⟨k - 1, by omega⟩
    obtain ⟨kc, rfl⟩ : ∃ k', kc = k' + 1 := ⟨kc - 1, by omega⟩
    have hlen6 : i + (l.length + 1) ≤ 11 := by
      have := PS_len ((d, g) :: l) p none ⟨p', hok, hc⟩ hp
      rw [List.length_cons] at this
      omega
    obtain ⟨M1, a1, a2, a3, a4⟩ := R_cmd_ok (n := n) (by omega) h hp h8 h9 hok
    have hT1 : RT M1 L p' ch := h.next a1 a2 a3
    have g19 : M1 0 19 = nI 1 := by rw [a1.2 19 (by decide) (by decide)]; exact h19
    have g00 : M1 0 0 = nI 0 := by rw [a1.2 0 (by decide) (by decide)]; exact h00
    have ec : F_X10_command n Mm = ob2 (F_X10_does n (nI d) (nI (g 0)) (nI (g 1)) (nI (g 3)) (nI (g 2)) M1) (fun _ M2 => some M2) := by rw [a4, F_X10_command_L143, a3, if_pos (by rfl), g19, if_neg nIz1]
    have hR1 : RR M1 V := hR.fr (a1.1 1 (by decide) (by decide))
    have hcls : F_X9_carryOutCommands_L2 n (kc + 1) (nI i) M = ob (F_X2_refusalOf n 1 (348 + 2 * i) M) (fun r => chk (decide (r < 23) && decide (0 < 23)) (if r = 0 then ob (F_X2_carryOut n 1 (348 + 2 * i) M) (fun M2 => F_X9_carryOutCommands_L2 n kc (nI (i + 1)) M2) else some (nI i, M))) := by
      have e1 : nI i + 1 = nI (i + 1) := by rw [litN, n_add]
      rw [F_X9_carryOutCommands_L2, h346, if_neg (by rw [n_le (by omega) (by omega)]; omega), inb_n (by omega) (by decide), chk_t, ix_n (by omega), e1]
      rfl
    rcases cmd_use (o1 := 348 + 2 * i) hR1 W (by omega) hn hA hok.1 hC.1 (fun q => by subst q; exact okc_9 hok) with ⟨e, t, e0, e1, t0, t1, e2, e3⟩ | ⟨e2, V', r, M2, Mc, e3, e4, e5, e6, e7, e8, e9⟩
    · refine ⟨i + 1, up2 M1 0 0 (nI t), M, ?_, fun z z0 _ z7 => by rw [u2_k z0]; exact a1.1 z z0 z7, fun j j0 j15 j18 => by rw [u2_j j0]; exact a1.2 j j15 j18, fun _ _ => rfl, .inr ⟨i, t, Nat.le_refl _, by rw [List.length_cons]; omega, rfl, t0, t1, u2_s, ?_⟩⟩
      · rw [ec, e3, ob2_s, ob_s, F_X10_commands_L16, u2_j (by decide), a3, if_pos (by rfl), u2_s, if_neg (by rw [litN, n_eq (by omega) (by decide)]; exact t0)]
      · rw [hcls, e2, ob_s, show (decide (e < 23) && decide (0 < 23)) = true by rw [decide_eq_true e1]; rfl, chk_t, if_neg e0]
    · have hT2 : RT M2 L p' ch := hT1.row (e4 0 (by decide)) (e4 5 (by decide))
      have f18 : M2 0 18 = nI 0 := by rw [e4 0 (by decide)]; exact a3
      have f00 : M2 0 0 = nI 0 := by rw [e4 0 (by decide)]; exact g00
      have f15 : M2 0 15 = nI p' := by rw [e4 0 (by decide)]; exact a2
      have hcls2 : F_X9_carryOutCommands_L2 n (kc + 1) (nI i) M = F_X9_carryOutCommands_L2 n kc (nI (i + 1)) Mc := by
        rw [hcls, e2, ob_s, show (decide (0 < 23) && decide (0 < 23)) = true from rfl, chk_t, if_pos rfl, e7, ob_s]
      have e16 : F_X10_commands_L16 n (k + 1) (nI (i + 1)) M2 = (if nI L ≤ nI p' then some (nI (i + 1), M2) else ob (F_X10_mark n 59 M2) (fun M_16_5 => (if (M_16_5 0 18) = 0 then ob (F_X10_command n M_16_5) (fun M_16_10 => F_X10_commands_L16 n k (nI (i + 1) + 1) M_16_10) else F_X10_commands_L16 n k (nI (i + 1) + 1) M_16_5))) := by
        rw [F_X10_commands_L16, f18, if_pos (by rfl), f00, if_pos (by rfl), hT2.2.1, f15]
        rfl
      have fz : ∀ z, z ≠ 0 → z ≠ 1 → z ≠ 7 → M2 z = Mm z := fun z z0 z1 z7 => by rw [e4 z z1]; exact a1.1 z z0 z7
      have fj : ∀ j, j ≠ 0 → j ≠ 15 → j ≠ 18 → M2 0 j = Mm 0 j := fun j _ j15 j18 => by rw [e4 0 (by decide)]; exact a1.2 j j15 j18
      have m346 : Mc 346 1 = nI (i + (l.length + 1)) := by rw [e9 346 (by omega)]; exact h346
      rw [ec, e3, ob2_s, ob_s, e16, hcls2]
      rcases hc with ⟨z1, z2, z3⟩ | ⟨z1, z2, z3, z4⟩ | ⟨z1, z2, z3⟩
      · subst z2
        obtain ⟨kc, rfl⟩ : ∃ k', kc = k' + 1 := ⟨kc - 1, by rw [List.length_nil] at hkc; omega⟩
        rw [if_pos (by rw [n_le (by omega) (by omega)]; omega)]
        refine ⟨i + 1, M2, Mc, rfl, fz, fj, e9, .inl ⟨by rw [List.length_cons, List.length_nil], f00, ?_, V', e5, by rw [List.length_cons, List.length_nil]; exact e6, e8⟩⟩
        rw [F_X9_carryOutCommands_L2, m346, if_pos (by rw [List.length_nil]; exact Int32.le_refl _)]
        rfl
      · exact nomatch z4
      · obtain ⟨M3, d1, d2, d3, d4⟩ := R_M (n := n) (x := 59) hT2 b.2 (by decide) rfl
        have d1' : F_X10_mark n 59 M2 = some M3 := d1
        rw [show pp ch L 59 p' = (1, p' + 1, 0) by rw [pp_letter rfl, if_pos ⟨z1, z2⟩]] at d3 d4
        have d3' : M3 0 15 = nI (p' + 1) := d3
        have d4' : M3 0 18 = nI 0 := d4
        have ei : nI (i + 1) + 1 = nI (i + 1 + 1) := by rw [litN, n_add]
        obtain ⟨x, Mm', M', f1, f2, f3, f4, f5⟩ := run_go hn l (p' + 1) (i + 1) k kc (c + 1) V' M3 Mc z3 (by omega) (hT2.next d2 d3' d4') (by omega) (by rw [d2.1 8 (by decide) (by decide), fz 8 (by decide) (by decide) (by decide)]; exact h8) (by rw [d2.1 9 (by decide) (by decide), fz 9 (by decide) (by decide) (by decide)]; exact h9) (by rw [d2.2 19 (by decide) (by decide), fj 19 (by decide) (by decide) (by decide)]; exact h19) (by rw [d2.2 0 (by decide) (by decide)]; exact f00) (by omega) (by omega) (by omega) (e5.fr (d2.1 1 (by decide) (by decide))) e6 e8 (by rw [m346, show i + 1 + l.length = i + (l.length + 1) by omega]) (hC.2.cong l (i + 1) (fun z z1 z2 => e9 z (by omega)))
        rw [if_neg (by rw [n_le (by omega) (by omega)]; omega), d1', ob_s, d4', if_pos (by rfl), ei, f1]
        refine ⟨x, Mm', M', rfl, fun z z0 z1 z7 => by rw [f2 z z0 z1 z7, d2.1 z z0 z7, fz z z0 z1 z7], fun j j0 j15 j18 => by rw [f3 j j0 j15 j18, d2.2 j j15 j18, fj j j0 j15 j18], fun z hz => by rw [f4 z hz, e9 z hz], ?_⟩
        rw [List.length_cons]
        rcases f5 with ⟨q1, q2, q3, V2, q4, q5, q6⟩ | ⟨y, t, q1, q2, q3, q4, q5, q6, q7⟩
        · exact .inl ⟨by omega, q2, by rw [q3, show i + 1 + l.length = i + (l.length + 1) by omega], V2, q4, by rw [show c + (l.length + 1) = c + 1 + l.length by omega]; exact q5, q6⟩
        · exact .inr ⟨y, t, by omega, by omega, q3, q4, q5, q6, q7⟩
end RUNP
