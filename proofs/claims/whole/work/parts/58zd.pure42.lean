/-! ===== PURE: the reference's word and command ===== -/
section WRW
variable {n : Nat} {M : Mem} {ch : Nat → Nat} {L : Nat}
def WoR (ch : Nat → Nat) (L p : Nat) (F : Option (Int32 × Mem)) (M M' : Mem) : Prop := RF M M' ∧ ((∃ w, w < 11 ∧ cpf ch L (wd w) p = (wd w).length ∧ F = some (nI w, M') ∧ M' 0 15 = nI (p + (wd w).length) ∧ M' 0 18 = nI 0) ∨ ((∀ w, w < 11 → cpf ch L (wd w) p < (wd w).length) ∧ ∃ t, (∀ w, w < 11 → cpf ch L (wd w) p ≤ t) ∧ (∃ w, w < 11 ∧ cpf ch L (wd w) p = t) ∧ F = some (-1, M') ∧ M' 0 15 = nI (p + t) ∧ M' 0 18 = nI 1))
theorem W25_go {p : Nat} (hn : 30 ≤ n) (hp : p ≤ L) : ∀ (j m k : Nat) (M : Mem), m + j = 7 → j < k → RT M L (p + m) ch → M 8 = ups wdL 59 → M 9 = ups waL 12 → (∀ w, w < 11 → M 7 w = nI (lfw ch L p m w)) → (∀ w, w < 11 → cpf ch L (wd w) p = (wd w).length → m < (wd w).length) → (∃ w, w < 11 ∧ m ≤ cpf ch L (wd w) p) →
    ∃ M', WoR ch L p (F_X10_word_L25 n k (nI m) (-1) M) M M'
  | 0, m, k, M, hmj, _, _, _, _, _, hf, ⟨w, w1, w2⟩ => by
    have a := cpf_le (ch := ch) (L := L) (wd w) p
    have b := wd_len w w1
    have c := hf w w1 (by omega)
    omega
  | j + 1, m, k, M, hmj, hk, h, h8, h9, h7, hf, hex => by
    have hL := h.1
    obtain ⟨k, rfl⟩ : ∃ k', k = k' + 1 := ⟨k - 1, by omega⟩
    obtain ⟨n', hn'⟩ : ∃ n', n' + 1 + 11 = n := ⟨n - 12, by omega⟩
    have e0 : F_X10_word_L25 n (k + 1) (nI m) (-1) M = F_X10_word_L41 n (F_X10_word_L25 n k) (n' + 1 + 11) (nI m) (-1) (nI (anyW ch L p (m + 1) 0)) (nI 0) M := by
      rw [F_X10_word_L25, if_neg (by decide), h.2.2.2.1, if_pos (by rfl), hn']
      rfl
    obtain ⟨M1, a1, a2, a3⟩ := W41_go (n := n) (c25 := F_X10_word_L25 n k) (x2 := -1) (k := n' + 1) hp (by omega : m < 7) 11 0 M (by omega) h h8 h9 (fun w hw => by rw [h7 w hw, if_neg (Nat.not_lt_zero _)])
    have e1 : nI m + 1 = nI (m + 1) := by rw [litN, n_add]
    have r15 : M1 0 15 = nI (p + m) := by rw [a2 0 (by decide)]; exact h.2.2.1
    have hany := anyW_1 (ch := ch) (L := L) (p := p) (m := m + 1) 11
    by_cases A : ∃ d, d < 11 ∧ m + 1 ≤ cpf ch L (wd d) p
    · have an := hany.mpr A
      let M2 := up2 (up2 M1 0 18 (nI 0)) 0 15 (nI (p + (m + 1)))
      have e2 : M2 = up2 (up2 M1 0 18 (nI 0)) 0 15 (nI (p + (m + 1))) := rfl
      have f2 : ∀ r, r ≠ 0 → M2 r = M1 r := fun r hr => by rw [e2, u2_k hr, u2_k hr]
      have rf2 : RF M M2 := ⟨fun r hr h7' => by rw [f2 r hr, a2 r h7'], fun jj b c => by rw [e2, u2_j b, u2_j c, a2 0 (by decide)]⟩
      have g15 : M2 0 15 = nI (p + (m + 1)) := u2_s
      have g18 : M2 0 18 = nI 0 := by rw [e2, u2_j (by decide), u2_s]
      have hgo := W167_go (n := n) (c25 := F_X10_word_L25 n k) (k := n') (ch := ch) (L := L) (p := p) (m := m + 1) (M := M2) (by omega) (by rw [f2 9 (by decide), a2 9 (by decide)]; exact h9) (fun w hw => by rw [f2 7 (by decide)]; exact a3 w hw) 11 0 (by omega)
      rw [hn'] at hgo
      have e3 : F_X10_word_L41 n (F_X10_word_L25 n k) (n' + 1) (nI m) (-1) (nI (anyW ch L p (m + 1) 11)) (nI 11) M1 = F_X10_word_L25 n k (nI (m + 1)) (isW ch L p (m + 1) 11) M2 := by
        have q : up2 (up2 M1 0 18 0) 0 15 ((up2 M1 0 18 0) 0 15 + 1) = M2 := by
          rw [e2, u2_j (by decide), r15, litN, litN, n_add]
          rfl
        rw [F_X10_word_L41, if_pos (by decide), an, if_neg (by decide), lt_s', if_neg (by decide), lt_s', q, e1, lt_s', ← hgo]
        rfl
      by_cases B : ∃ d, d < 11 ∧ lfw ch L p (m + 1) d = 1 ∧ m + 1 = (wd d).length
      · obtain ⟨d, d1, d2, d3⟩ := B
        have hc : cpf ch L (wd d) p = (wd d).length := by
          have := cpf_le (ch := ch) (L := L) (wd d) p
          have := lfw_1.mp d2
          omega
        have hw := isW_yes (ch := ch) (L := L) (p := p) (m := m + 1) (w := d) ⟨d2, d3⟩ (fun e he q => by
          by_cases z : d = e
          · exact z.symm
          · have := wd_one (ch := ch) (L := L) (p := p) d1 he hc z
            have := lfw_1.mp q.1
            omega) 11 d1 (Nat.le_refl _)
        obtain ⟨k, rfl⟩ : ∃ k', k = k' + 1 := ⟨k - 1, by omega⟩
        refine ⟨M2, rf2, .inl ⟨d, d1, hc, ?_, by rw [g15, d3], g18⟩⟩
        rw [e0, a1, e3, hw, F_X10_word_L25, if_pos (by rw [litN, n_le (by decide) (by omega)]; exact Nat.zero_le _)]
      · have hw := isW_no (ch := ch) (L := L) (p := p) (m := m + 1) 11 (fun d hd q => B ⟨d, hd, q⟩)
        obtain ⟨M', c1, c2⟩ := W25_go hn hp j (m + 1) k M2 (by omega) (by omega) (h.next rf2 g15 g18) (by rw [f2 8 (by decide), a2 8 (by decide)]; exact h8) (by rw [f2 9 (by decide), a2 9 (by decide)]; exact h9) (fun w hw => by rw [f2 7 (by decide)]; exact a3 w hw) (fun w hw hc => by
          have q1 := hf w hw hc
          by_cases z : m + 1 = (wd w).length
          · exact absurd ⟨w, hw, lfw_1.mpr (by omega), z⟩ B
          · omega) A
        rw [e0, a1, e3, hw]
        exact ⟨M', rf2.trans c1, c2⟩
    · have an : anyW ch L p (m + 1) 11 = 0 := by
        have := anyW_b (ch := ch) (L := L) (p := p) (m := m + 1) 11
        have : anyW ch L p (m + 1) 11 ≠ 1 := fun q => A (hany.mp q)
        omega
      have hno : ∀ d, d < 11 → cpf ch L (wd d) p ≤ m := fun d hd => Nat.le_of_not_lt (fun q => A ⟨d, hd, q⟩)
      let M2 := up2 (up2 M1 0 18 (nI 1)) 0 15 (nI (p + m))
      have e2 : M2 = up2 (up2 M1 0 18 (nI 1)) 0 15 (nI (p + m)) := rfl
      have f2 : ∀ r, r ≠ 0 → M2 r = M1 r := fun r hr => by rw [e2, u2_k hr, u2_k hr]
      have rf2 : RF M M2 := ⟨fun r hr h7' => by rw [f2 r hr, a2 r h7'], fun jj b c => by rw [e2, u2_j b, u2_j c, a2 0 (by decide)]⟩
      have g15 : M2 0 15 = nI (p + m) := u2_s
      have g18 : M2 0 18 = nI 1 := by rw [e2, u2_j (by decide), u2_s]
      have hgo := W167_go (n := n) (c25 := F_X10_word_L25 n k) (k := n') (ch := ch) (L := L) (p := p) (m := m + 1) (M := M2) (by omega) (by rw [f2 9 (by decide), a2 9 (by decide)]; exact h9) (fun w hw => by rw [f2 7 (by decide)]; exact a3 w hw) 11 0 (by omega)
      rw [hn'] at hgo
      have e3 : F_X10_word_L41 n (F_X10_word_L25 n k) (n' + 1) (nI m) (-1) (nI (anyW ch L p (m + 1) 11)) (nI 11) M1 = F_X10_word_L25 n k (nI (m + 1)) (isW ch L p (m + 1) 11) M2 := by
        have q : up2 (up2 M1 0 18 1) 0 15 ((up2 M1 0 18 1) 0 15 + 0) = M2 := by
          rw [e2, u2_j (by decide), r15, litN, litN, n_add, Nat.add_zero]
        rw [F_X10_word_L41, if_pos (by decide), an, if_pos (by rfl), lt_s', if_pos (by rfl), lt_s', q, e1, lt_s', ← hgo]
        rfl
      have hw := isW_no (ch := ch) (L := L) (p := p) (m := m + 1) 11 (fun d hd q => A ⟨d, hd, lfw_1.mp q.1⟩)
      obtain ⟨k, rfl⟩ : ∃ k', k = k' + 1 := ⟨k - 1, by omega⟩
      refine ⟨M2, rf2, .inr ⟨fun w hw => ?_, m, hno, ?_, ?_, g15, g18⟩⟩
      · have q1 := cpf_le (ch := ch) (L := L) (wd w) p
        have q2 := hno w hw
        by_cases z : cpf ch L (wd w) p = (wd w).length
        · have := hf w hw z
          omega
        · omega
      · obtain ⟨w, w1, w2⟩ := hex
        exact ⟨w, w1, by have := hno w w1; omega⟩
      · rw [e0, a1, e3, hw, F_X10_word_L25, if_neg (by decide), g18, if_neg nIz1]
theorem R_word {p : Nat} (hn : 30 ≤ n) (h : RT M L p ch) (hp : p ≤ L) (h8 : M 8 = ups wdL 59) (h9 : M 9 = ups waL 12) : ∃ M', WoR ch L p (F_X10_word n M) M M' := by
  obtain ⟨n', rfl⟩ : ∃ n', n = n' + 1 + 11 := ⟨n - 12, by omega⟩
  obtain ⟨M1, a1, a2, a3⟩ := W2_go (n := n' + 1 + 11) (k := n') 11 0 M (by omega) (fun w hw => absurd hw (Nat.not_lt_zero _))
  have rf1 : RF M M1 := ⟨fun r _ h7 => a2 r h7, fun j _ _ => by rw [a2 0 (by decide)]⟩
  obtain ⟨M', b1, b2⟩ := W25_go (n := n' + 1 + 11) (ch := ch) hn hp 7 0 (n' + 1 + 11) M1 (by omega) (by omega) (h.next rf1 (by rw [a2 0 (by decide)]; exact h.2.2.1) (by rw [a2 0 (by decide)]; exact h.2.2.2.1)) (by rw [a2 8 (by decide)]; exact h8) (by rw [a2 9 (by decide)]; exact h9) (fun w hw => by rw [a3 w hw, lfw_1.mpr (Nat.zero_le _)]) (fun w hw _ => by have := wd_len w hw; omega) ⟨0, by decide, Nat.zero_le _⟩
  have e : F_X10_word (n' + 1 + 11) M = F_X10_word_L25 (n' + 1 + 11) (n' + 1 + 11) (nI 0) (-1) M1 := a1
  rw [e]
  exact ⟨M', rf1.trans b1, b2⟩
theorem R_cmd_eq : F_X10_command n M = ob2 (F_X10_word n M) (fun r M_3 => if M_3 0 18 = 0 then RTail n r M_3 else some M_3) := rfl
theorem wl_le {w p : Nat} (hp : p ≤ L) (hc : cpf ch L (wd w) p = (wd w).length) : p + (wd w).length ≤ L := by
  rcases Nat.eq_zero_or_pos (wd w).length with z | z
  · omega
  · have := cpf_at (ch := ch) (L := L) (f := wd w) (p := p) (i := (wd w).length - 1) (by omega)
    omega
theorem R_cmd_ok {p d p' : Nat} {g : Nat → Nat} (hn : 30 ≤ n) (h : RT M L p ch) (hp : p ≤ L) (h8 : M 8 = ups wdL 59) (h9 : M 9 = ups waL 12) (hok : okc ch L p d p' g) :
    ∃ M', RF M M' ∧ M' 0 15 = nI p' ∧ M' 0 18 = nI 0 ∧ F_X10_command n M = F_X10_command_L143 n (nI d) (nI (g 1)) (nI (g 3)) (nI (g 2)) (nI (g 0)) M' := by
  obtain ⟨k1, k2, k3, k4, k5⟩ := hok
  obtain ⟨M1, a1, a2⟩ := R_word (n := n) hn h hp h8 h9
  rcases a2 with ⟨w, w1, w2, w3, w4, w5⟩ | ⟨w1, _⟩
  · have hwd : w = d := by
      by_cases z : d = w
      · exact z.symm
      · have := wd_one k1 w1 k2 z
        omega
    subst hwd
    obtain ⟨M2, b1, b2, b3⟩ := R_tail (n := n) (ch := ch) (L := L) (M := M1) k1 (by omega) (h.next a1 w4 w5) (wl_le hp k2)
    rcases b3 with ⟨c1, _, _⟩ | ⟨c1, c2, c3⟩
    · exact absurd c1 k3
    · refine ⟨M2, a1.trans b1, by rw [b2, k4], c2, ?_⟩
      rw [R_cmd_eq, w3, ob2_s, w5, if_pos (by rfl), c3, k5]
  · have := w1 d k1
    omega
theorem R_cmd_no {p e : Nat} (hn : 30 ≤ n) (h : RT M L p ch) (hp : p ≤ L) (h8 : M 8 = ups wdL 59) (h9 : M 9 = ups waL 12) (hno : noc ch L p e) :
    ∃ M', RF M M' ∧ M' 0 15 = nI e ∧ M' 0 18 = nI 1 ∧ F_X10_command n M = some M' := by
  obtain ⟨M1, a1, a2⟩ := R_word (n := n) hn h hp h8 h9
  rcases hno with ⟨d, k1, k2, k3, k4⟩ | ⟨k1, m, k2, k3, k4⟩
  · rcases a2 with ⟨w, w1, w2, w3, w4, w5⟩ | ⟨w1, _⟩
    · have hwd : w = d := by
        by_cases z : d = w
        · exact z.symm
        · have := wd_one k1 w1 k2 z
          omega
      subst hwd
      obtain ⟨M2, b1, b2, b3⟩ := R_tail (n := n) (ch := ch) (L := L) (M := M1) k1 (by omega) (h.next a1 w4 w5) (wl_le hp k2)
      rcases b3 with ⟨c1, c2, c3⟩ | ⟨c1, _, _⟩
      · refine ⟨M2, a1.trans b1, by rw [b2, k4], c2, ?_⟩
        rw [R_cmd_eq, w3, ob2_s, w5, if_pos (by rfl), c3]
      · exact absurd k3 c1
    · have := w1 d k1
      omega
  · rcases a2 with ⟨w, w1, w2, w3, w4, w5⟩ | ⟨w1, t, t1, ⟨w, t2, t3⟩, t4, t5, t6⟩
    · have := k1 w w1
      omega
    · obtain ⟨v, v1, v2⟩ := k3
      have q1 := k2 w t2
      have q2 := t1 v v1
      refine ⟨M1, a1, by rw [t5, k4, show t = m by omega], t6, ?_⟩
      rw [R_cmd_eq, t4, ob2_s, t6, if_neg nIz1]
end WRW
