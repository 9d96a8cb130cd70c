/-! ===== PURE: the whole text, read by both ===== -/
/-- the text from p on: its commands, and the place of the error if there is one -/
def PS (ch : Nat → Nat) (L : Nat) : List (Nat × (Nat → Nat)) → Nat → Option Nat → Prop
  | [], p, r => ∃ e, noc ch L p e ∧ r = some e
  | (d, g) :: l, p, r => ∃ p', okc ch L p d p' g ∧ ((p' = L ∧ l = [] ∧ r = none) ∨ (p' < L ∧ ch p' ≠ 59 ∧ l = [] ∧ r = some p') ∨ (p' < L ∧ ch p' = 59 ∧ PS ch L l (p' + 1) r))
def CMD (M : Mem) (o d : Nat) (g : Nat → Nat) : Prop := M o 0 = nI d ∧ ∀ t, t < nis (tl d) → M (o + 1) t = nI (g t)
def CmdsAt (M : Mem) : Nat → List (Nat × (Nat → Nat)) → Prop
  | _, [] => True
  | i, (d, g) :: l => CMD M (348 + 2 * i) d g ∧ CmdsAt M (i + 1) l
section TXT
variable {n : Nat} {T M Mm : Mem} {ch : Nat → Nat} {L : Nat}
theorem ok_or_no {p : Nat} : (∃ d p' g, okc ch L p d p' g) ∨ ∃ e, noc ch L p e := by
  by_cases h : ∃ d, d < 11 ∧ cpf ch L (wd d) p = (wd d).length
  · obtain ⟨d, h1, h2⟩ := h
    by_cases z : (pf ch L (tl d) (p + (wd d).length) 0 g0).1 = 0
    · exact .inr ⟨_, .inl ⟨d, h1, h2, z, rfl⟩⟩
    · exact .inl ⟨d, _, _, h1, h2, z, rfl, rfl⟩
  · have hl : ∀ d, d < 11 → cpf ch L (wd d) p < (wd d).length := fun d hd => Nat.lt_of_le_of_ne (cpf_le _ _) (fun q => h ⟨d, hd, q⟩)
    have hm : ∀ k, k ≤ 11 → 0 < k → ∃ m, (∀ d, d < k → cpf ch L (wd d) p ≤ m) ∧ ∃ d, d < k ∧ cpf ch L (wd d) p = m := by
      intro k
      induction k with
      | zero => intro _ h; exact absurd h (Nat.lt_irrefl _)
      | succ k ih =>
        intro hk _
        by_cases z : k = 0
        · subst z
          exact ⟨cpf ch L (wd 0) p, fun d hd => by rw [show d = 0 by omega]; exact Nat.le_refl _, 0, by decide, rfl⟩
        · obtain ⟨m, m1, d, m2, m3⟩ := ih (by omega) (by omega)
          by_cases y : cpf ch L (wd k) p ≤ m
          · refine ⟨m, fun e he => ?_, d, by omega, m3⟩
            by_cases x : e = k
            · rw [x]; exact y
            · exact m1 e (by omega)
          · refine ⟨cpf ch L (wd k) p, fun e he => ?_, k, by omega, rfl⟩
            by_cases x : e = k
            · rw [x]; exact Nat.le_refl _
            · have := m1 e (by omega); omega
    obtain ⟨m, m1, m2⟩ := hm 11 (Nat.le_refl _) (by decide)
    exact .inr ⟨p + m, .inr ⟨hl, m, m1, m2, rfl⟩⟩
theorem okc_le {p d p' : Nat} {g : Nat → Nat} (hp : p ≤ L) (h : okc ch L p d p' g) : p + 5 ≤ p' ∧ p' ≤ L := by
  obtain ⟨h1, h2, h3, h4, _⟩ := h
  have a := pf_len (ch := ch) (L := L) (tl d) (p + (wd d).length) 0 g0 h3
  have b := pf_le (ch := ch) (L := L) (tl d) (p + (wd d).length) 0 g0 (wl_le hp h2)
  have c := wd_len d h1
  omega
theorem PS_ex : ∀ (k p : Nat), L < p + k → p ≤ L → ∃ l r, PS ch L l p r
  | 0, p, h, hp => by omega
  | k + 1, p, h, hp => by
    rcases ok_or_no (ch := ch) (L := L) (p := p) with ⟨d, p', g, hok⟩ | ⟨e, hno⟩
    · have b := okc_le hp hok
      by_cases z : p' = L
      · exact ⟨[(d, g)], none, p', hok, .inl ⟨z, rfl, rfl⟩⟩
      · by_cases y : ch p' = 59
        · obtain ⟨l, r, hl⟩ := PS_ex k (p' + 1) (by omega) (by omega)
          exact ⟨(d, g) :: l, r, p', hok, .inr (.inr ⟨by omega, y, hl⟩)⟩
        · exact ⟨[(d, g)], some p', p', hok, .inr (.inl ⟨by omega, y, rfl, rfl⟩)⟩
    · exact ⟨[], some e, e, hno, rfl⟩
theorem PS_len : ∀ (l : List (Nat × (Nat → Nat))) p r, PS ch L l p r → p ≤ L → p + 6 * l.length ≤ L + 1
  | [], p, r, _, hp => by rw [List.length_nil]; omega
  | (d, g) :: l, p, r, h, hp => by
    obtain ⟨p', hok, hc⟩ := h
    have b := okc_le hp hok
    rw [List.length_cons]
    rcases hc with ⟨_, rfl, _⟩ | ⟨_, _, rfl, _⟩ | ⟨c1, _, c3⟩
    · rw [List.length_nil]; omega
    · rw [List.length_nil]; omega
    · have := PS_len l (p' + 1) r c3 (by omega)
      omega
theorem pf_q : ∀ (f : List Nat) p q g, (pf ch L f p q g).1 ≠ 0 → (pf ch L f p q g).2.2.1 = q + nis f
  | [], p, q, g, _ => rfl
  | x :: f, p, q, g, h => by
    by_cases z : (pp ch L x p).1 = 0
    · rw [pf_no z] at h
      exact absurd rfl h
    · rw [pf_go z] at h ⊢
      rw [pf_q f _ _ _ h, nis]
      omega
theorem CMD.cong {M' : Mem} {o d : Nat} {g : Nat → Nat} (h : CMD M o d g) (e0 : M' o = M o) (e1 : M' (o + 1) = M (o + 1)) : CMD M' o d g := by
  unfold CMD
  rw [e0, e1]
  exact h
theorem CmdsAt.cong {M' : Mem} : ∀ (l : List (Nat × (Nat → Nat))) (i : Nat), CmdsAt M i l → (∀ k, 348 + 2 * i ≤ k → k < 348 + 2 * (i + l.length) → M' k = M k) → CmdsAt M' i l
  | [], _, _, _ => trivial
  | (d, g) :: l, i, h, e => by
    rw [List.length_cons] at e
    exact ⟨h.1.cong (e _ (by omega) (by omega)) (e _ (by omega) (by omega)), CmdsAt.cong l (i + 1) h.2 (fun k a b => e k (by omega) (by omega))⟩
/-- the class reads all -/
theorem C_read_go {cap : Nat} (hn : 14 ≤ n) (hL : L ≤ 60) (h32 : ∀ k, k < L → 32 ≤ ch k) : ∀ (l : List (Nat × (Nat → Nat))) (p i k : Nat) (M : Mem) (r : Option Nat), PS ch L l p r → 6 * i ≤ p → p ≤ L → l.length < k → TB T M 370 372 0 L cap ch → M 346 1 = nI i → M 346 2 = nI p →
    ∃ M', F_X4_read_L10 n T 346 k M = some (nI (if r = none then 1 else 0), M') ∧ (∀ z, z ≠ 346 → (z < 348 + 2 * i ∨ 370 ≤ z) → M' z = M z) ∧ (∀ j, j ≠ 1 → j ≠ 2 → M' 346 j = M 346 j) ∧ (r = none → M' 346 1 = nI (i + l.length) ∧ CmdsAt M' i l) ∧ ∀ e, r = some e → M' 346 2 = nI e
  | [], p, i, k, M, r, hps, hip, hp, hk, hT, h1, h2 => by
    obtain ⟨e, hno, rfl⟩ := hps
    obtain ⟨k, rfl⟩ : ∃ k', k = k' + 1 := ⟨k - 1, by omega⟩
    obtain ⟨M1, c1, c2, c3⟩ := C_cmd_no (n := n) (o2 := 346 + 1 + 1 + 2 * i) hn hL h32 (by omega) (by omega) hp hT h2 hno
    refine ⟨M1, ?_, fun z a b => c2.1 z a (by omega) (by omega), fun j a b => c2.2 j b, fun q => absurd q (by simp), fun e' he => by rw [c3, Option.some.inj he]⟩
    rw [F_X4_read_L10, h1, if_neg (by rw [litN, n_le (by decide) (by omega)]; omega), inb_n (by omega) (by decide), chk_t, ix_n (by omega), c1, ob2_s, if_pos (by rfl), if_neg (by simp)]
    rfl
  | (d, g) :: l, p, i, k, M, r, hps, hip, hp, hk, hT, h1, h2 => by
    obtain ⟨p', hok, hc⟩ := hps
    have b := okc_le hp hok
    rw [List.length_cons] at hk
    obtain ⟨k, rfl⟩ : ∃ k', k = k' + 1 := ⟨k - 1, by omega⟩
    obtain ⟨M1, c1, c2, c3, c4, c5⟩ := C_cmd_ok (n := n) (o2 := 346 + 1 + 1 + 2 * i) hn hL h32 (by omega) (by omega) hp hT h2 hok
    have e1 : nI i + 1 = nI (i + 1) := by rw [litN, n_add]
    have q1 : M1 346 1 = nI i := by rw [c2.2 1 (by decide)]; exact h1
    let M2 := up2 M1 346 1 (nI (i + 1))
    have e2 : M2 = up2 M1 346 1 (nI (i + 1)) := rfl
    have hT2 : TB T M2 370 372 0 L cap ch := hT.fr (by rw [e2, u2_k (by decide)]; exact c2.1 370 (by decide) (by omega) (by omega))
    have hp2 : M2 346 2 = nI p' := by rw [e2, u2_j (by decide)]; exact c3
    have fr2 : ∀ z, z ≠ 346 → M2 z = M1 z := fun z hz => by rw [e2, u2_k hz]
    have hch := C_char (n := n) hT2 hp2 (by omega)
    have hcmd : CMD M2 (348 + 2 * i) d g := by
      have := pf_q (ch := ch) (L := L) (tl d) (p + (wd d).length) 0 g0 hok.2.2.1
      rw [this, Nat.zero_add] at c5
      refine ⟨by rw [fr2 _ (by omega)]; exact c4, fun t ht => by rw [fr2 _ (by omega)]; exact c5 t ht⟩
    have hu : F_X4_read_L10 n T 346 (k + 1) M = (if nI p' = nI L then some (1, M2) else ob (F_X4_charAtPosition n T 346 M2) (fun r_10_13 => (if r_10_13 = 59 then F_X4_read_L10 n T 346 k (up2 M2 346 2 (nI (p' + 1))) else some (0, M2)))) := by
      have e3 : up2 M1 346 1 (M1 346 1 + 1) = M2 := by rw [q1, e1]
      have e4 : nI p' + 1 = nI (p' + 1) := by rw [litN, n_add]
      rw [F_X4_read_L10, h1, if_neg (by rw [litN, n_le (by decide) (by omega)]; omega), inb_n (by omega) (by decide), chk_t, ix_n (by omega), c1, ob2_s, if_neg nIz1, e3, lt_s', g_len_t hT2, ob_s, hp2, e4]
      rfl
    rcases hc with ⟨z1, z2, z3⟩ | ⟨z1, z2, z3, z4⟩ | ⟨z1, z2, z3⟩
    · subst z2; subst z3
      refine ⟨M2, ?_, fun z a b => by rw [fr2 z a]; exact c2.1 z a (by omega) (by omega), fun j a b => by rw [e2, u2_j a]; exact c2.2 j b, fun _ => ⟨by rw [e2, u2_s]; rfl, hcmd, trivial⟩, fun e he => nomatch he⟩
      rw [hu, if_pos (by rw [z1]), if_pos rfl]
      rfl
    · subst z3; subst z4
      refine ⟨M2, ?_, fun z a b => by rw [fr2 z a]; exact c2.1 z a (by omega) (by omega), fun j a b => by rw [e2, u2_j a]; exact c2.2 j b, fun q => absurd q (by simp), fun e he => by rw [hp2, Option.some.inj he]⟩
      have hb := (g_at_t (n := n) hT2 z1).2
      rw [hu, if_neg (by rw [n_eq (by omega) (by omega)]; omega), hch, ob_s, if_pos z1, if_neg (by rw [litN, n_eq (by omega) (by decide)]; exact z2), if_neg (by simp)]
      rfl
    · obtain ⟨M', d1, d2, d3, d4, d5⟩ := C_read_go hn hL h32 l (p' + 1) (i + 1) k (up2 M2 346 2 (nI (p' + 1))) r z3 (by omega) (by omega) (by omega) (hT2.fr (u2_k (by decide))) (by rw [u2_j (by decide), e2, u2_s]) u2_s
      refine ⟨M', ?_, fun z a b => by rw [d2 z a (by omega), u2_k a, fr2 z a]; exact c2.1 z a (by omega) (by omega), fun j a b => by rw [d3 j a b, u2_j b, e2, u2_j a]; exact c2.2 j b, fun q => ?_, d5⟩
      · rw [hu, if_neg (by rw [n_eq (by omega) (by omega)]; omega), hch, ob_s, if_pos z1, z2, if_pos (by rfl)]
        exact d1
      · obtain ⟨q1, q2⟩ := d4 q
        refine ⟨by rw [q1, List.length_cons, show i + 1 + l.length = i + (l.length + 1) by omega], hcmd.cong ?_ ?_, q2⟩
        · rw [d2 _ (by omega) (by omega), u2_k (by omega)]
        · rw [d2 _ (by omega) (by omega), u2_k (by omega)]
/-- the reference reads all, for the first time -/
theorem R_read_go (hn : 30 ≤ n) : ∀ (l : List (Nat × (Nat → Nat))) (p k : Nat) (c : Int32) (M : Mem) (r : Option Nat), PS ch L l p r → RT M L p ch → p ≤ L → M 8 = ups wdL 59 → M 9 = ups waL 12 → M 0 19 = nI 0 → M 0 0 = nI 0 → l.length < k →
    ∃ M' x, ob (F_X10_command n M) (fun M1 => F_X10_commands_L16 n k c M1) = some (x, M') ∧ RF M M' ∧ (r = none → M' 0 18 = nI 0) ∧ ∀ e, r = some e → M' 0 18 = nI 1 ∧ M' 0 15 = nI e
  | [], p, k, c, M, r, hps, h, hp, h8, h9, h19, h00, hk => by
    obtain ⟨e, hno, rfl⟩ := hps
    obtain ⟨k, rfl⟩ : ∃ k', k = k' + 1 := ⟨k - 1, by omega⟩
    obtain ⟨M1, a1, a2, a3, a4⟩ := R_cmd_no (n := n) hn h hp h8 h9 hno
    refine ⟨M1, c, ?_, a1, fun q => absurd q (by simp), fun e' he => ⟨a3, by rw [a2, Option.some.inj he]⟩⟩
    rw [a4, ob_s, F_X10_commands_L16, a3, if_neg nIz1]
  | (d, g) :: l, p, k, c, M, r, hps, h, hp, h8, h9, h19, h00, hk => by
    obtain ⟨p', hok, hc⟩ := hps
    have b := okc_le hp hok
    have hL := h.1
    rw [List.length_cons] at hk
    obtain ⟨k, rfl⟩ : ∃ k', k = k' + 1 := ⟨k - 1, by omega⟩
    obtain ⟨M1, a1, a2, a3, a4⟩ := R_cmd_ok (n := n) hn h hp h8 h9 hok
    have hT1 : RT M1 L p' ch := h.next a1 a2 a3
    have g19 : M1 0 19 = nI 0 := by rw [a1.2 19 (by decide) (by decide)]; exact h19
    have g00 : M1 0 0 = nI 0 := by rw [a1.2 0 (by decide) (by decide)]; exact h00
    have ec : F_X10_command n M = some M1 := by rw [a4, F_X10_command_L143, a3, if_pos (by rfl), g19, if_pos (by rfl)]
    have e16 : F_X10_commands_L16 n (k + 1) c M1 = (if nI L ≤ nI p' then some (c, M1) else ob (F_X10_mark n 59 M1) (fun M_16_5 => (if (M_16_5 0 18) = 0 then ob (F_X10_command n M_16_5) (fun M_16_10 => F_X10_commands_L16 n k (c + 1) M_16_10) else F_X10_commands_L16 n k (c + 1) M_16_5))) := by
      rw [F_X10_commands_L16, a3, if_pos (by rfl), g00, if_pos (by rfl), hT1.2.1, a2]
      rfl
    rw [ec, ob_s, e16]
    rcases hc with ⟨z1, z2, z3⟩ | ⟨z1, z2, z3, z4⟩ | ⟨z1, z2, z3⟩
    · subst z3
      rw [if_pos (by rw [n_le (by omega) (by omega)]; omega)]
      exact ⟨M1, c, rfl, a1, fun _ => a3, fun e he => nomatch he⟩
    · subst z4
      obtain ⟨M2, d1, d2, d3, d4⟩ := R_M (n := n) (x := 59) hT1 b.2 (by decide) rfl
      have d1' : F_X10_mark n 59 M1 = some M2 := d1
      rw [show pp ch L 59 p' = (0, p', 0) by rw [pp_letter rfl, if_neg (fun q => z2 q.2)]] at d3 d4
      have d3' : M2 0 15 = nI p' := d3
      have d4' : M2 0 18 = nI 1 := d4
      obtain ⟨k, rfl⟩ : ∃ k', k = k' + 1 := ⟨k - 1, by rw [z3, List.length_nil] at hk; omega⟩
      rw [if_neg (by rw [n_le (by omega) (by omega)]; omega), d1', ob_s, d4', if_neg nIz1, F_X10_commands_L16, d4', if_neg nIz1]
      exact ⟨M2, c + 1, rfl, a1.trans d2, fun q => absurd q (by simp), fun e he => ⟨d4', by rw [d3', Option.some.inj he]⟩⟩
    · obtain ⟨M2, d1, d2, d3, d4⟩ := R_M (n := n) (x := 59) hT1 b.2 (by decide) rfl
      have d1' : F_X10_mark n 59 M1 = some M2 := d1
      rw [show pp ch L 59 p' = (1, p' + 1, 0) by rw [pp_letter rfl, if_pos ⟨z1, z2⟩]] at d3 d4
      have d3' : M2 0 15 = nI (p' + 1) := d3
      have d4' : M2 0 18 = nI 0 := d4
      obtain ⟨M', x, f1, f2, f3, f4⟩ := R_read_go hn l (p' + 1) k (c + 1) M2 r z3 (hT1.next d2 d3' d4') (by omega) (by rw [d2.1 8 (by decide) (by decide), a1.1 8 (by decide) (by decide)]; exact h8) (by rw [d2.1 9 (by decide) (by decide), a1.1 9 (by decide) (by decide)]; exact h9) (by rw [d2.2 19 (by decide) (by decide)]; exact g19) (by rw [d2.2 0 (by decide) (by decide)]; exact g00) (by omega)
      rw [if_neg (by rw [n_le (by omega) (by omega)]; omega), d1', ob_s, d4', if_pos (by rfl), f1]
      exact ⟨M', x, rfl, (a1.trans d2).trans f2, f3, f4⟩
end TXT
