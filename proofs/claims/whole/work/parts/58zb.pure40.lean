/-! ===== PURE: the reference's command behind its word ===== -/
def RTail (n : Nat) (r : Int32) (M : Mem) : Option Mem := if r < 2 then ob2 (F_X10_digits n 1 M) (fun r_7 M_8 => F_X10_command_L41 n r 0 0 0 r_7 M_8) else (if 4 < r then ob2 (F_X10_digits n 1 M) (fun r_7 M_8 => F_X10_command_L41 n r 0 0 0 r_7 M_8) else ob2 (F_X10_digits n 2 M) (fun r_7 M_8 => F_X10_command_L41 n r 0 0 0 r_7 M_8))
def TlR (n : Nat) (ch : Nat → Nat) (L d p : Nat) (M : Mem) : Prop := ∃ M', RF M M' ∧ M' 0 15 = nI (pf ch L (tl d) p 0 g0).2.1 ∧ (((pf ch L (tl d) p 0 g0).1 = 0 ∧ M' 0 18 = nI 1 ∧ RTail n (nI d) M = some M') ∨ ((pf ch L (tl d) p 0 g0).1 ≠ 0 ∧ M' 0 18 = nI 0 ∧ RTail n (nI d) M = F_X10_command_L143 n (nI d) (nI ((pf ch L (tl d) p 0 g0).2.2.2 1)) (nI ((pf ch L (tl d) p 0 g0).2.2.2 3)) (nI ((pf ch L (tl d) p 0 g0).2.2.2 2)) (nI ((pf ch L (tl d) p 0 g0).2.2.2 0)) M'))
section TAI
variable {n : Nat} {M : Mem} {ch : Nat → Nat} {L : Nat} {x1 x2 x3 x4 x5 : Int32}
theorem pf_no {x p q : Nat} {f : List Nat} {g : Nat → Nat} (h : (pp ch L x p).1 = 0) : pf ch L (x :: f) p q g = (0, (pp ch L x p).2.1, q, g) := by rw [pf, if_pos h]
theorem pf_go {x p q : Nat} {f : List Nat} {g : Nat → Nat} (h : (pp ch L x p).1 ≠ 0) : pf ch L (x :: f) p q g = pf ch L f (pp ch L x p).2.1 (q + isn x) (gs g x q (pp ch L x p).2.2) := by rw [pf, if_neg h]
theorem nIz1 : ¬ (nI 1 = 0) := by decide
theorem L143_w (h : M 0 18 = nI 1) : F_X10_command_L143 n x1 x2 x3 x4 x5 M = some M := by rw [F_X10_command_L143, h, if_neg nIz1]
theorem L124_n (h : x1 ≠ 9) : F_X10_command_L124 n x1 x2 x3 x4 x5 M = F_X10_command_L143 n x1 x2 x3 x4 x5 M := if_neg h
theorem L112_n (h : x1 ≠ 9) : F_X10_command_L112 n x1 x2 x3 x4 x5 M = F_X10_command_L124 n x1 x2 x3 x4 x5 M := if_neg h
theorem L76_n (h5 : x1 ≠ 5) (h6 : x1 ≠ 6) (h8 : x1 ≠ 8) (h9 : x1 ≠ 9) : F_X10_command_L76 n x1 x2 x3 x4 x5 M = F_X10_command_L112 n x1 x2 x3 x4 x5 M := by rw [F_X10_command_L76, if_neg h5, if_neg h6, if_neg h8, if_neg h9]
theorem L58_n (h : x1 ≠ 2) : F_X10_command_L58 n x1 x2 x3 x4 x5 M = F_X10_command_L76 n x1 x2 x3 x4 x5 M := if_neg h
theorem L41_n (h : x1 ≠ 0) : F_X10_command_L41 n x1 x2 x3 x4 x5 M = F_X10_command_L58 n x1 x2 x3 x4 x5 M := if_neg h
theorem L124_w (h : M 0 18 = nI 1) : F_X10_command_L124 n x1 x2 x3 x4 x5 M = some M := by
  rw [F_X10_command_L124, h, if_neg nIz1, L143_w h]
  exact ite_self _
theorem plus_w (h : M 0 18 = nI 1) : F_X10_plus n M = some (0, M) := by rw [F_X10_plus, h, if_neg nIz1]
theorem L112_w (h : M 0 18 = nI 1) : F_X10_command_L112 n x1 x2 x3 x4 x5 M = some M := by
  rw [F_X10_command_L112, plus_w h, ob2_s, L124_w h, L124_w h]
  exact ite_self _
theorem L76_w (h : M 0 18 = nI 1) : F_X10_command_L76 n x1 x2 x3 x4 x5 M = some M := by
  rw [F_X10_command_L76, h, if_neg nIz1, L112_w h, ite_self, ite_self, ite_self, ite_self]
theorem L58_w (h : M 0 18 = nI 1) : F_X10_command_L58 n x1 x2 x3 x4 x5 M = some M := by
  rw [F_X10_command_L58, h, if_neg nIz1, L76_w h, ite_self]
theorem L41_w (h : M 0 18 = nI 1) : F_X10_command_L41 n x1 x2 x3 x4 x5 M = some M := by
  rw [F_X10_command_L41, h, if_neg nIz1, L58_w h, ite_self]

theorem R_tail_0 {p : Nat} (hn : 14 ≤ n) (h : RT M L p ch) (hp : p ≤ L) : TlR n ch L 0 p M := by
  have et : tl 0 = [68, 68] := rfl
  unfold TlR
  rw [et]
  obtain ⟨M1, a2, b2, c2, d2⟩ := R_D (n := n) hn h hp
  have e1 : RTail n (nI 0) M = F_X10_command_L41 n (nI 0) 0 0 0 (nI (pp ch L 68 p).2.2) M1 := by rw [RTail, if_pos (by decide), a2, ob2_s]
  by_cases z1 : (pp ch L 68 p).1 = 0
  · rw [if_pos z1] at d2
    exact ⟨M1, b2, by rw [pf_no z1]; exact c2, .inl ⟨by rw [pf_no z1], d2, e1.trans (L41_w d2)⟩⟩
  · rw [if_neg z1] at d2
    have h1 := h.next b2 c2 d2
    have p1 := pp_le (ch := ch) (x := 68) hp
    obtain ⟨M2, q1, q2, q3, q4⟩ := R_D (n := n) hn h1 p1
    have e2 : RTail n (nI 0) M = F_X10_command_L58 n (nI 0) (nI (pp ch L 68 (pp ch L 68 p).2.1).2.2) 0 0 (nI (pp ch L 68 p).2.2) M2 := by rw [e1, F_X10_command_L41, if_pos (by decide), if_pos (by rw [d2]; rfl), q1, ob2_s]
    by_cases z2 : (pp ch L 68 (pp ch L 68 p).2.1).1 = 0
    · rw [if_pos z2] at q4
      exact ⟨M2, b2.trans q2, by rw [pf_go z1, pf_no z2]; exact q3, .inl ⟨by rw [pf_go z1, pf_no z2], q4, e2.trans (L58_w q4)⟩⟩
    · rw [if_neg z2] at q4
      have f2 := b2.trans q2
      have c2_ := q3
      have d2_ := q4
      refine ⟨M2, f2, by rw [pf_go z1, pf_go z2]; exact c2_, .inr ⟨by rw [pf_go z1, pf_go z2]; exact Nat.one_ne_zero, d2_, ?_⟩⟩
      rw [pf_go z1, pf_go z2, e2, L58_n (by decide), L76_n (by decide) (by decide) (by decide) (by decide), L112_n (by decide), L124_n (by decide)]
      rfl
theorem R_tail_1 {p : Nat} (hn : 14 ≤ n) (h : RT M L p ch) (hp : p ≤ L) : TlR n ch L 1 p M := by
  have et : tl 1 = [68] := rfl
  unfold TlR
  rw [et]
  obtain ⟨M1, a2, b2, c2, d2⟩ := R_D (n := n) hn h hp
  have e1 : RTail n (nI 1) M = F_X10_command_L41 n (nI 1) 0 0 0 (nI (pp ch L 68 p).2.2) M1 := by rw [RTail, if_pos (by decide), a2, ob2_s]
  by_cases z1 : (pp ch L 68 p).1 = 0
  · rw [if_pos z1] at d2
    exact ⟨M1, b2, by rw [pf_no z1]; exact c2, .inl ⟨by rw [pf_no z1], d2, e1.trans (L41_w d2)⟩⟩
  · rw [if_neg z1] at d2
    have h1 := h.next b2 c2 d2
    have p1 := pp_le (ch := ch) (x := 68) hp
    refine ⟨M1, b2, by rw [pf_go z1]; exact c2, .inr ⟨by rw [pf_go z1]; exact Nat.one_ne_zero, d2, ?_⟩⟩
    rw [pf_go z1, e1, L41_n (by decide), L58_n (by decide), L76_n (by decide) (by decide) (by decide) (by decide), L112_n (by decide), L124_n (by decide)]
    rfl
theorem R_tail_2 {p : Nat} (hn : 14 ≤ n) (h : RT M L p ch) (hp : p ≤ L) : TlR n ch L 2 p M := by
  have et : tl 2 = [78, 32, 68] := rfl
  unfold TlR
  rw [et]
  obtain ⟨M1, a2, b2, c2, d2⟩ := R_N (n := n) hn h hp
  have e1 : RTail n (nI 2) M = F_X10_command_L41 n (nI 2) 0 0 0 (nI (pp ch L 78 p).2.2) M1 := by rw [RTail, if_neg (by decide), if_neg (by decide), a2, ob2_s]
  by_cases z1 : (pp ch L 78 p).1 = 0
  · rw [if_pos z1] at d2
    exact ⟨M1, b2, by rw [pf_no z1]; exact c2, .inl ⟨by rw [pf_no z1], d2, e1.trans (L41_w d2)⟩⟩
  · rw [if_neg z1] at d2
    have h1 := h.next b2 c2 d2
    have p1 := pp_le (ch := ch) (x := 78) hp
    obtain ⟨ba2, bb2⟩ := R_B1 (n := n) hn h1 p1
    by_cases y2 : (pp ch L 32 (pp ch L 78 p).2.1).1 = 0
    · obtain ⟨M2, q1, q2, q3, q4⟩ := ba2 y2
      refine ⟨M2, b2.trans q2, by rw [pf_go z1, pf_no y2]; exact q3, .inl ⟨by rw [pf_go z1, pf_no y2], q4, ?_⟩⟩
      rw [e1, L41_n (by decide), F_X10_command_L58, if_pos (by decide), if_pos (by rw [d2]; rfl), q1, ob2_s, L76_w q4]
    · obtain ⟨M2, q1, q2, q3, q4⟩ := bb2 y2
      have e2 : RTail n (nI 2) M = F_X10_command_L76 n (nI 2) (nI (pp ch L 68 (pp ch L 32 (pp ch L 78 p).2.1).2.1).2.2) 0 0 (nI (pp ch L 78 p).2.2) M2 := by rw [e1, L41_n (by decide), F_X10_command_L58, if_pos (by decide), if_pos (by rw [d2]; rfl), q1, ob2_s]
      by_cases z2 : (pp ch L 68 (pp ch L 32 (pp ch L 78 p).2.1).2.1).1 = 0
      · rw [if_pos z2] at q4
        exact ⟨M2, b2.trans q2, by rw [pf_go z1, pf_go y2, pf_no z2]; exact q3, .inl ⟨by rw [pf_go z1, pf_go y2, pf_no z2], q4, e2.trans (L76_w q4)⟩⟩
      · rw [if_neg z2] at q4
        have h2 := h1.next q2 q3 q4
        have p2 := pp_le (ch := ch) (x := 68) (pp_le (ch := ch) (x := 32) p1)
        have f2 := b2.trans q2
        have c2_ := q3
        have d2_ := q4
        refine ⟨M2, f2, by rw [pf_go z1, pf_go y2, pf_go z2]; exact c2_, .inr ⟨by rw [pf_go z1, pf_go y2, pf_go z2]; exact Nat.one_ne_zero, d2_, ?_⟩⟩
        rw [pf_go z1, pf_go y2, pf_go z2, e2, L76_n (by decide) (by decide) (by decide) (by decide), L112_n (by decide), L124_n (by decide)]
        rfl
theorem R_tail_3 {p : Nat} (hn : 14 ≤ n) (h : RT M L p ch) (hp : p ≤ L) : TlR n ch L 3 p M := by
  have et : tl 3 = [78] := rfl
  unfold TlR
  rw [et]
  obtain ⟨M1, a2, b2, c2, d2⟩ := R_N (n := n) hn h hp
  have e1 : RTail n (nI 3) M = F_X10_command_L41 n (nI 3) 0 0 0 (nI (pp ch L 78 p).2.2) M1 := by rw [RTail, if_neg (by decide), if_neg (by decide), a2, ob2_s]
  by_cases z1 : (pp ch L 78 p).1 = 0
  · rw [if_pos z1] at d2
    exact ⟨M1, b2, by rw [pf_no z1]; exact c2, .inl ⟨by rw [pf_no z1], d2, e1.trans (L41_w d2)⟩⟩
  · rw [if_neg z1] at d2
    have h1 := h.next b2 c2 d2
    have p1 := pp_le (ch := ch) (x := 78) hp
    refine ⟨M1, b2, by rw [pf_go z1]; exact c2, .inr ⟨by rw [pf_go z1]; exact Nat.one_ne_zero, d2, ?_⟩⟩
    rw [pf_go z1, e1, L41_n (by decide), L58_n (by decide), L76_n (by decide) (by decide) (by decide) (by decide), L112_n (by decide), L124_n (by decide)]
    rfl
theorem R_tail_4 {p : Nat} (hn : 14 ≤ n) (h : RT M L p ch) (hp : p ≤ L) : TlR n ch L 4 p M := by
  have et : tl 4 = [78] := rfl
  unfold TlR
  rw [et]
  obtain ⟨M1, a2, b2, c2, d2⟩ := R_N (n := n) hn h hp
  have e1 : RTail n (nI 4) M = F_X10_command_L41 n (nI 4) 0 0 0 (nI (pp ch L 78 p).2.2) M1 := by rw [RTail, if_neg (by decide), if_neg (by decide), a2, ob2_s]
  by_cases z1 : (pp ch L 78 p).1 = 0
  · rw [if_pos z1] at d2
    exact ⟨M1, b2, by rw [pf_no z1]; exact c2, .inl ⟨by rw [pf_no z1], d2, e1.trans (L41_w d2)⟩⟩
  · rw [if_neg z1] at d2
    have h1 := h.next b2 c2 d2
    have p1 := pp_le (ch := ch) (x := 78) hp
    refine ⟨M1, b2, by rw [pf_go z1]; exact c2, .inr ⟨by rw [pf_go z1]; exact Nat.one_ne_zero, d2, ?_⟩⟩
    rw [pf_go z1, e1, L41_n (by decide), L58_n (by decide), L76_n (by decide) (by decide) (by decide) (by decide), L112_n (by decide), L124_n (by decide)]
    rfl
theorem R_tail_5 {p : Nat} (hn : 14 ≤ n) (h : RT M L p ch) (hp : p ≤ L) : TlR n ch L 5 p M := by
  have et : tl 5 = [68, 32, 78] := rfl
  unfold TlR
  rw [et]
  obtain ⟨M1, a2, b2, c2, d2⟩ := R_D (n := n) hn h hp
  have e1 : RTail n (nI 5) M = F_X10_command_L41 n (nI 5) 0 0 0 (nI (pp ch L 68 p).2.2) M1 := by rw [RTail, if_neg (by decide), if_pos (by decide), a2, ob2_s]
  by_cases z1 : (pp ch L 68 p).1 = 0
  · rw [if_pos z1] at d2
    exact ⟨M1, b2, by rw [pf_no z1]; exact c2, .inl ⟨by rw [pf_no z1], d2, e1.trans (L41_w d2)⟩⟩
  · rw [if_neg z1] at d2
    have h1 := h.next b2 c2 d2
    have p1 := pp_le (ch := ch) (x := 68) hp
    obtain ⟨ba2, bb2⟩ := R_B2 (n := n) hn h1 p1
    by_cases y2 : (pp ch L 32 (pp ch L 68 p).2.1).1 = 0
    · obtain ⟨M2, q1, q2, q3, q4⟩ := ba2 y2
      refine ⟨M2, b2.trans q2, by rw [pf_go z1, pf_no y2]; exact q3, .inl ⟨by rw [pf_go z1, pf_no y2], q4, ?_⟩⟩
      rw [e1, L41_n (by decide), L58_n (by decide), F_X10_command_L76, if_pos (by decide), if_pos (by rw [d2]; rfl), q1, ob2_s, L112_w q4]
    · obtain ⟨M2, q1, q2, q3, q4⟩ := bb2 y2
      have e2 : RTail n (nI 5) M = F_X10_command_L112 n (nI 5) (nI (pp ch L 78 (pp ch L 32 (pp ch L 68 p).2.1).2.1).2.2) 0 0 (nI (pp ch L 68 p).2.2) M2 := by rw [e1, L41_n (by decide), L58_n (by decide), F_X10_command_L76, if_pos (by decide), if_pos (by rw [d2]; rfl), q1, ob2_s]
      by_cases z2 : (pp ch L 78 (pp ch L 32 (pp ch L 68 p).2.1).2.1).1 = 0
      · rw [if_pos z2] at q4
        exact ⟨M2, b2.trans q2, by rw [pf_go z1, pf_go y2, pf_no z2]; exact q3, .inl ⟨by rw [pf_go z1, pf_go y2, pf_no z2], q4, e2.trans (L112_w q4)⟩⟩
      · rw [if_neg z2] at q4
        have h2 := h1.next q2 q3 q4
        have p2 := pp_le (ch := ch) (x := 78) (pp_le (ch := ch) (x := 32) p1)
        have f2 := b2.trans q2
        have c2_ := q3
        have d2_ := q4
        refine ⟨M2, f2, by rw [pf_go z1, pf_go y2, pf_go z2]; exact c2_, .inr ⟨by rw [pf_go z1, pf_go y2, pf_go z2]; exact Nat.one_ne_zero, d2_, ?_⟩⟩
        rw [pf_go z1, pf_go y2, pf_go z2, e2, L112_n (by decide), L124_n (by decide)]
        rfl
theorem R_tail_6 {p : Nat} (hn : 14 ≤ n) (h : RT M L p ch) (hp : p ≤ L) : TlR n ch L 6 p M := by
  have et : tl 6 = [68, 32, 78] := rfl
  unfold TlR
  rw [et]
  obtain ⟨M1, a2, b2, c2, d2⟩ := R_D (n := n) hn h hp
  have e1 : RTail n (nI 6) M = F_X10_command_L41 n (nI 6) 0 0 0 (nI (pp ch L 68 p).2.2) M1 := by rw [RTail, if_neg (by decide), if_pos (by decide), a2, ob2_s]
  by_cases z1 : (pp ch L 68 p).1 = 0
  · rw [if_pos z1] at d2
    exact ⟨M1, b2, by rw [pf_no z1]; exact c2, .inl ⟨by rw [pf_no z1], d2, e1.trans (L41_w d2)⟩⟩
  · rw [if_neg z1] at d2
    have h1 := h.next b2 c2 d2
    have p1 := pp_le (ch := ch) (x := 68) hp
    obtain ⟨ba2, bb2⟩ := R_B2 (n := n) hn h1 p1
    by_cases y2 : (pp ch L 32 (pp ch L 68 p).2.1).1 = 0
    · obtain ⟨M2, q1, q2, q3, q4⟩ := ba2 y2
      refine ⟨M2, b2.trans q2, by rw [pf_go z1, pf_no y2]; exact q3, .inl ⟨by rw [pf_go z1, pf_no y2], q4, ?_⟩⟩
      rw [e1, L41_n (by decide), L58_n (by decide), F_X10_command_L76, if_neg (by decide), if_pos (by decide), if_pos (by rw [d2]; rfl), q1, ob2_s, L112_w q4]
    · obtain ⟨M2, q1, q2, q3, q4⟩ := bb2 y2
      have e2 : RTail n (nI 6) M = F_X10_command_L112 n (nI 6) (nI (pp ch L 78 (pp ch L 32 (pp ch L 68 p).2.1).2.1).2.2) 0 0 (nI (pp ch L 68 p).2.2) M2 := by rw [e1, L41_n (by decide), L58_n (by decide), F_X10_command_L76, if_neg (by decide), if_pos (by decide), if_pos (by rw [d2]; rfl), q1, ob2_s]
      by_cases z2 : (pp ch L 78 (pp ch L 32 (pp ch L 68 p).2.1).2.1).1 = 0
      · rw [if_pos z2] at q4
        exact ⟨M2, b2.trans q2, by rw [pf_go z1, pf_go y2, pf_no z2]; exact q3, .inl ⟨by rw [pf_go z1, pf_go y2, pf_no z2], q4, e2.trans (L112_w q4)⟩⟩
      · rw [if_neg z2] at q4
        have h2 := h1.next q2 q3 q4
        have p2 := pp_le (ch := ch) (x := 78) (pp_le (ch := ch) (x := 32) p1)
        have f2 := b2.trans q2
        have c2_ := q3
        have d2_ := q4
        refine ⟨M2, f2, by rw [pf_go z1, pf_go y2, pf_go z2]; exact c2_, .inr ⟨by rw [pf_go z1, pf_go y2, pf_go z2]; exact Nat.one_ne_zero, d2_, ?_⟩⟩
        rw [pf_go z1, pf_go y2, pf_go z2, e2, L112_n (by decide), L124_n (by decide)]
        rfl
theorem R_tail_7 {p : Nat} (hn : 14 ≤ n) (h : RT M L p ch) (hp : p ≤ L) : TlR n ch L 7 p M := by
  have et : tl 7 = [68] := rfl
  unfold TlR
  rw [et]
  obtain ⟨M1, a2, b2, c2, d2⟩ := R_D (n := n) hn h hp
  have e1 : RTail n (nI 7) M = F_X10_command_L41 n (nI 7) 0 0 0 (nI (pp ch L 68 p).2.2) M1 := by rw [RTail, if_neg (by decide), if_pos (by decide), a2, ob2_s]
  by_cases z1 : (pp ch L 68 p).1 = 0
  · rw [if_pos z1] at d2
    exact ⟨M1, b2, by rw [pf_no z1]; exact c2, .inl ⟨by rw [pf_no z1], d2, e1.trans (L41_w d2)⟩⟩
  · rw [if_neg z1] at d2
    have h1 := h.next b2 c2 d2
    have p1 := pp_le (ch := ch) (x := 68) hp
    refine ⟨M1, b2, by rw [pf_go z1]; exact c2, .inr ⟨by rw [pf_go z1]; exact Nat.one_ne_zero, d2, ?_⟩⟩
    rw [pf_go z1, e1, L41_n (by decide), L58_n (by decide), L76_n (by decide) (by decide) (by decide) (by decide), L112_n (by decide), L124_n (by decide)]
    rfl
theorem R_tail_8 {p : Nat} (hn : 14 ≤ n) (h : RT M L p ch) (hp : p ≤ L) : TlR n ch L 8 p M := by
  have et : tl 8 = [68, 32, 78] := rfl
  unfold TlR
  rw [et]
  obtain ⟨M1, a2, b2, c2, d2⟩ := R_D (n := n) hn h hp
  have e1 : RTail n (nI 8) M = F_X10_command_L41 n (nI 8) 0 0 0 (nI (pp ch L 68 p).2.2) M1 := by rw [RTail, if_neg (by decide), if_pos (by decide), a2, ob2_s]
  by_cases z1 : (pp ch L 68 p).1 = 0
  · rw [if_pos z1] at d2
    exact ⟨M1, b2, by rw [pf_no z1]; exact c2, .inl ⟨by rw [pf_no z1], d2, e1.trans (L41_w d2)⟩⟩
  · rw [if_neg z1] at d2
    have h1 := h.next b2 c2 d2
    have p1 := pp_le (ch := ch) (x := 68) hp
    obtain ⟨ba2, bb2⟩ := R_B2 (n := n) hn h1 p1
    by_cases y2 : (pp ch L 32 (pp ch L 68 p).2.1).1 = 0
    · obtain ⟨M2, q1, q2, q3, q4⟩ := ba2 y2
      refine ⟨M2, b2.trans q2, by rw [pf_go z1, pf_no y2]; exact q3, .inl ⟨by rw [pf_go z1, pf_no y2], q4, ?_⟩⟩
      rw [e1, L41_n (by decide), L58_n (by decide), F_X10_command_L76, if_neg (by decide), if_neg (by decide), if_pos (by decide), if_pos (by rw [d2]; rfl), q1, ob2_s, L112_w q4]
    · obtain ⟨M2, q1, q2, q3, q4⟩ := bb2 y2
      have e2 : RTail n (nI 8) M = F_X10_command_L112 n (nI 8) (nI (pp ch L 78 (pp ch L 32 (pp ch L 68 p).2.1).2.1).2.2) 0 0 (nI (pp ch L 68 p).2.2) M2 := by rw [e1, L41_n (by decide), L58_n (by decide), F_X10_command_L76, if_neg (by decide), if_neg (by decide), if_pos (by decide), if_pos (by rw [d2]; rfl), q1, ob2_s]
      by_cases z2 : (pp ch L 78 (pp ch L 32 (pp ch L 68 p).2.1).2.1).1 = 0
      · rw [if_pos z2] at q4
        exact ⟨M2, b2.trans q2, by rw [pf_go z1, pf_go y2, pf_no z2]; exact q3, .inl ⟨by rw [pf_go z1, pf_go y2, pf_no z2], q4, e2.trans (L112_w q4)⟩⟩
      · rw [if_neg z2] at q4
        have h2 := h1.next q2 q3 q4
        have p2 := pp_le (ch := ch) (x := 78) (pp_le (ch := ch) (x := 32) p1)
        have f2 := b2.trans q2
        have c2_ := q3
        have d2_ := q4
        refine ⟨M2, f2, by rw [pf_go z1, pf_go y2, pf_go z2]; exact c2_, .inr ⟨by rw [pf_go z1, pf_go y2, pf_go z2]; exact Nat.one_ne_zero, d2_, ?_⟩⟩
        rw [pf_go z1, pf_go y2, pf_go z2, e2, L112_n (by decide), L124_n (by decide)]
        rfl
theorem R_tail_9 {p : Nat} (hn : 14 ≤ n) (h : RT M L p ch) (hp : p ≤ L) : TlR n ch L 9 p M := by
  have et : tl 9 = [68, 32, 78, 83, 68] := rfl
  unfold TlR
  rw [et]
  obtain ⟨M1, a2, b2, c2, d2⟩ := R_D (n := n) hn h hp
  have e1 : RTail n (nI 9) M = F_X10_command_L41 n (nI 9) 0 0 0 (nI (pp ch L 68 p).2.2) M1 := by rw [RTail, if_neg (by decide), if_pos (by decide), a2, ob2_s]
  by_cases z1 : (pp ch L 68 p).1 = 0
  · rw [if_pos z1] at d2
    exact ⟨M1, b2, by rw [pf_no z1]; exact c2, .inl ⟨by rw [pf_no z1], d2, e1.trans (L41_w d2)⟩⟩
  · rw [if_neg z1] at d2
    have h1 := h.next b2 c2 d2
    have p1 := pp_le (ch := ch) (x := 68) hp
    obtain ⟨ba2, bb2⟩ := R_B2 (n := n) hn h1 p1
    by_cases y2 : (pp ch L 32 (pp ch L 68 p).2.1).1 = 0
    · obtain ⟨M2, q1, q2, q3, q4⟩ := ba2 y2
      refine ⟨M2, b2.trans q2, by rw [pf_go z1, pf_no y2]; exact q3, .inl ⟨by rw [pf_go z1, pf_no y2], q4, ?_⟩⟩
      rw [e1, L41_n (by decide), L58_n (by decide), F_X10_command_L76, if_neg (by decide), if_neg (by decide), if_neg (by decide), if_pos (by decide), if_pos (by rw [d2]; rfl), q1, ob2_s, L112_w q4]
    · obtain ⟨M2, q1, q2, q3, q4⟩ := bb2 y2
      have e2 : RTail n (nI 9) M = F_X10_command_L112 n (nI 9) (nI (pp ch L 78 (pp ch L 32 (pp ch L 68 p).2.1).2.1).2.2) 0 0 (nI (pp ch L 68 p).2.2) M2 := by rw [e1, L41_n (by decide), L58_n (by decide), F_X10_command_L76, if_neg (by decide), if_neg (by decide), if_neg (by decide), if_pos (by decide), if_pos (by rw [d2]; rfl), q1, ob2_s]
      by_cases z2 : (pp ch L 78 (pp ch L 32 (pp ch L 68 p).2.1).2.1).1 = 0
      · rw [if_pos z2] at q4
        exact ⟨M2, b2.trans q2, by rw [pf_go z1, pf_go y2, pf_no z2]; exact q3, .inl ⟨by rw [pf_go z1, pf_go y2, pf_no z2], q4, e2.trans (L112_w q4)⟩⟩
      · rw [if_neg z2] at q4
        have h2 := h1.next q2 q3 q4
        have p2 := pp_le (ch := ch) (x := 78) (pp_le (ch := ch) (x := 32) p1)
        have f2 := b2.trans q2
        have c2_ := q3
        have d2_ := q4
        obtain ⟨M3, q1, q2, q3, q4⟩ := R_P (n := n) h2 p2
        have e3 : RTail n (nI 9) M = F_X10_command_L124 n (nI 9) (nI (pp ch L 78 (pp ch L 32 (pp ch L 68 p).2.1).2.1).2.2) 0 (nI (pp ch L 83 (pp ch L 78 (pp ch L 32 (pp ch L 68 p).2.1).2.1).2.1).2.2) (nI (pp ch L 68 p).2.2) M3 := by rw [e2, F_X10_command_L112, if_pos (by decide), q1, ob2_s]
        by_cases z3 : (pp ch L 83 (pp ch L 78 (pp ch L 32 (pp ch L 68 p).2.1).2.1).2.1).1 = 0
        · rw [if_pos z3] at q4
          exact ⟨M3, f2.trans q2, by rw [pf_go z1, pf_go y2, pf_go z2, pf_no z3]; exact q3, .inl ⟨by rw [pf_go z1, pf_go y2, pf_go z2, pf_no z3], q4, e3.trans (L124_w q4)⟩⟩
        · rw [if_neg z3] at q4
          have h3 := h2.next q2 q3 q4
          have p3 := pp_le (ch := ch) (x := 83) p2
          have f3 := f2.trans q2
          have c3_ := q3
          have d3_ := q4
          obtain ⟨M4, q1, q2, q3, q4⟩ := R_D (n := n) hn h3 p3
          have e4 : RTail n (nI 9) M = F_X10_command_L143 n (nI 9) (nI (pp ch L 78 (pp ch L 32 (pp ch L 68 p).2.1).2.1).2.2) (nI (pp ch L 68 (pp ch L 83 (pp ch L 78 (pp ch L 32 (pp ch L 68 p).2.1).2.1).2.1).2.1).2.2) (nI (pp ch L 83 (pp ch L 78 (pp ch L 32 (pp ch L 68 p).2.1).2.1).2.1).2.2) (nI (pp ch L 68 p).2.2) M4 := by rw [e3, F_X10_command_L124, if_pos (by decide), if_pos (by rw [d3_]; rfl), q1, ob2_s]
          by_cases z4 : (pp ch L 68 (pp ch L 83 (pp ch L 78 (pp ch L 32 (pp ch L 68 p).2.1).2.1).2.1).2.1).1 = 0
          · rw [if_pos z4] at q4
            exact ⟨M4, f3.trans q2, by rw [pf_go z1, pf_go y2, pf_go z2, pf_go z3, pf_no z4]; exact q3, .inl ⟨by rw [pf_go z1, pf_go y2, pf_go z2, pf_go z3, pf_no z4], q4, e4.trans (L143_w q4)⟩⟩
          · rw [if_neg z4] at q4
            have f4 := f3.trans q2
            have c4_ := q3
            have d4_ := q4
            refine ⟨M4, f4, by rw [pf_go z1, pf_go y2, pf_go z2, pf_go z3, pf_go z4]; exact c4_, .inr ⟨by rw [pf_go z1, pf_go y2, pf_go z2, pf_go z3, pf_go z4]; exact Nat.one_ne_zero, d4_, ?_⟩⟩
            rw [pf_go z1, pf_go y2, pf_go z2, pf_go z3, pf_go z4, e4]
            rfl
theorem R_tail_10 {p : Nat} (hn : 14 ≤ n) (h : RT M L p ch) (hp : p ≤ L) : TlR n ch L 10 p M := by
  have et : tl 10 = [68] := rfl
  unfold TlR
  rw [et]
  obtain ⟨M1, a2, b2, c2, d2⟩ := R_D (n := n) hn h hp
  have e1 : RTail n (nI 10) M = F_X10_command_L41 n (nI 10) 0 0 0 (nI (pp ch L 68 p).2.2) M1 := by rw [RTail, if_neg (by decide), if_pos (by decide), a2, ob2_s]
  by_cases z1 : (pp ch L 68 p).1 = 0
  · rw [if_pos z1] at d2
    exact ⟨M1, b2, by rw [pf_no z1]; exact c2, .inl ⟨by rw [pf_no z1], d2, e1.trans (L41_w d2)⟩⟩
  · rw [if_neg z1] at d2
    have h1 := h.next b2 c2 d2
    have p1 := pp_le (ch := ch) (x := 68) hp
    refine ⟨M1, b2, by rw [pf_go z1]; exact c2, .inr ⟨by rw [pf_go z1]; exact Nat.one_ne_zero, d2, ?_⟩⟩
    rw [pf_go z1, e1, L41_n (by decide), L58_n (by decide), L76_n (by decide) (by decide) (by decide) (by decide), L112_n (by decide), L124_n (by decide)]
    rfl
theorem R_tail {d p : Nat} (hd : d < 11) (hn : 14 ≤ n) (h : RT M L p ch) (hp : p ≤ L) : TlR n ch L d p M := by
  rcases (by omega : d = 0 ∨ d = 1 ∨ d = 2 ∨ d = 3 ∨ d = 4 ∨ d = 5 ∨ d = 6 ∨ d = 7 ∨ d = 8 ∨ d = 9 ∨ d = 10) with q | q | q | q | q | q | q | q | q | q | q <;> subst q
  · exact R_tail_0 hn h hp
  · exact R_tail_1 hn h hp
  · exact R_tail_2 hn h hp
  · exact R_tail_3 hn h hp
  · exact R_tail_4 hn h hp
  · exact R_tail_5 hn h hp
  · exact R_tail_6 hn h hp
  · exact R_tail_7 hn h hp
  · exact R_tail_8 hn h hp
  · exact R_tail_9 hn h hp
  · exact R_tail_10 hn h hp
end TAI
