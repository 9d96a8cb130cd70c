/-! ===== PURE: the reference's word ===== -/
def waN : List Nat := [0, 5, 9, 13, 18, 25, 30, 37, 42, 46, 52, 59]
def wa (d : Nat) : Nat := waN.getD d 0
theorem wa_9 : ∀ d, d < 12 → ups waL 12 d = nI (wa d) := by decide +kernel
theorem wa_s : ∀ d, d < 11 → wa (d + 1) = wa d + (wd d).length ∧ wa d + (wd d).length ≤ 59 := by decide
theorem wd_8 : ∀ d, d < 11 → ∀ m, m < 7 → m < (wd d).length → ups wdL 59 (wa d + m) = nI ((wd d).getD m 0) ∧ (wd d).getD m 0 < 127 := by decide +kernel
theorem nb_and0 : ∀ b, b < 2 → nI b &&& 0 = nI 0 := by decide
theorem nb_and1 : ∀ b, b < 2 → nI b &&& 1 = nI b := by decide
theorem nb_or0 : ∀ b, b < 2 → nI b ||| 0 = nI b := by decide
theorem nb_or1 : ∀ b, b < 2 → nI b ||| 1 = nI 1 := by decide
/-- letter m of word d stands (with those before it): is the word left -/
def lfw (ch : Nat → Nat) (L p m d : Nat) : Nat := if m ≤ cpf ch L (wd d) p then 1 else 0
def anyW (ch : Nat → Nat) (L p m : Nat) : Nat → Nat
  | 0 => 0
  | i + 1 => max (anyW ch L p m i) (lfw ch L p m i)
def isW (ch : Nat → Nat) (L p m : Nat) : Nat → Int32
  | 0 => -1
  | i + 1 => if lfw ch L p m i = 1 ∧ m = (wd i).length then nI i else isW ch L p m i
section WOR
variable {n : Nat} {M : Mem} {ch : Nat → Nat} {L : Nat}
theorem lfw_b {p m d : Nat} : lfw ch L p m d < 2 := by unfold lfw; split <;> decide
theorem lfw_1 {p m d : Nat} : lfw ch L p m d = 1 ↔ m ≤ cpf ch L (wd d) p := by
  unfold lfw
  split
  · exact ⟨fun _ => by assumption, fun _ => rfl⟩
  · exact ⟨fun q => absurd q (by decide), fun q => absurd q (by assumption)⟩
theorem anyW_b {p m : Nat} : ∀ i, anyW ch L p m i < 2
  | 0 => (show 0 < 2 by decide)
  | i + 1 => by
    have h1 := anyW_b (p := p) (m := m) i
    have h2 := lfw_b (ch := ch) (L := L) (p := p) (m := m) (d := i)
    rw [anyW]
    omega
theorem anyW_1 {p m : Nat} : ∀ i, anyW ch L p m i = 1 ↔ ∃ d, d < i ∧ m ≤ cpf ch L (wd d) p
  | 0 => ⟨fun q => absurd q (show ¬ (0 = 1) by decide), fun ⟨_, q, _⟩ => absurd q (Nat.not_lt_zero _)⟩
  | i + 1 => by
    have ih := anyW_1 (p := p) (m := m) i
    have h1 := anyW_b (ch := ch) (L := L) (p := p) (m := m) i
    have h2 := lfw_b (ch := ch) (L := L) (p := p) (m := m) (d := i)
    rw [anyW]
    constructor
    · intro q
      by_cases z : lfw ch L p m i = 1
      · exact ⟨i, by omega, lfw_1.mp z⟩
      · obtain ⟨d, d1, d2⟩ := ih.mp (by omega)
        exact ⟨d, by omega, d2⟩
    · intro ⟨d, d1, d2⟩
      by_cases z : d = i
      · subst z
        have := lfw_1.mpr d2
        omega
      · have := ih.mpr ⟨d, by omega, d2⟩
        omega
theorem isW_no {p m : Nat} : ∀ i, (∀ d, d < i → ¬ (lfw ch L p m d = 1 ∧ m = (wd d).length)) → isW ch L p m i = -1
  | 0, _ => rfl
  | i + 1, h => by
    rw [isW, if_neg (h i (by omega))]
    exact isW_no i (fun d hd => h d (by omega))
theorem isW_yes {p m w : Nat} (hw : lfw ch L p m w = 1 ∧ m = (wd w).length) (hu : ∀ d, d < 11 → (lfw ch L p m d = 1 ∧ m = (wd d).length) → d = w) : ∀ i, w < i → i ≤ 11 → isW ch L p m i = nI w
  | 0, h, _ => absurd h (Nat.not_lt_zero _)
  | i + 1, h, h11 => by
    rw [isW]
    by_cases z : w = i
    · subst z; rw [if_pos hw]
    · rw [if_neg (fun q => z (hu i (by omega) q).symm)]
      exact isW_yes hw hu i (by omega) (by omega)
/-- the word, one candidate in one round -/
theorem W41_step {c25 : Int32 → Int32 → Mem → Option (Int32 × Mem)} {x2 : Int32} {p m i e k : Nat} (h : RT M L (p + m) ch) (hp : p ≤ L) (hm : m < 7) (hi : i < 11) (he : e < 2) (h8 : M 8 = ups wdL 59) (h9 : M 9 = ups waL 12) (h7 : M 7 i = nI (lfw ch L p m i)) :
    F_X10_word_L41 n c25 (k + 1) (nI m) x2 (nI e) (nI i) M = F_X10_word_L41 n c25 k (nI m) x2 (nI (max e (lfw ch L p (m + 1) i))) (nI (i + 1)) (up2 M 7 i (nI (lfw ch L p (m + 1) i))) := by
  have hL := h.1
  have hlb := lfw_b (ch := ch) (L := L) (p := p) (m := m) (d := i)
  have hs := R_sign (n := n) h.1 (by omega) h.2.1 h.2.2.1 h.2.2.2.2.1
  have ws := wa_s i hi
  have wl := wd_len i hi
  have e1 : nI i + 1 = nI (i + 1) := by rw [litN, n_add]
  have a9 : M 9 (ix (nI i)) = nI (wa i) := by rw [h9, ix_n (by omega)]; exact wa_9 i (by omega)
  have b9 : M 9 (ix (nI i + 1)) = nI (wa (i + 1)) := by rw [h9, e1, ix_n (by omega)]; exact wa_9 (i + 1) (by omega)
  have a7 : M 7 (ix (nI i)) = nI (lfw ch L p m i) := by rw [ix_n (by omega)]; exact h7
  have hix : ix (nI i) = i := ix_n (by omega)
  have in11 : inb (nI i) 11 = true := inb_n hi (by decide)
  have in12 : inb (nI i) 12 = true := inb_n (by omega) (by decide)
  have in13 : inb (nI i + 1) 12 = true := by rw [e1]; exact inb_n (by omega) (by decide)
  have m0 : nI 0 = 1 ↔ False := ⟨fun q => absurd q (by decide), False.elim⟩
  have key : lfw ch L p (m + 1) i = if lfw ch L p m i = 1 ∧ m < (wd i).length ∧ p + m < L ∧ ch (p + m) = (wd i).getD m 0 then 1 else 0 := by
    by_cases z : m ≤ cpf ch L (wd i) p
    · have q := cpf_step (ch := ch) (L := L) (wd i) p m z
      by_cases y : m + 1 ≤ cpf ch L (wd i) p
      · rw [if_pos ⟨lfw_1.mpr z, q.mpr y⟩]; exact lfw_1.mpr y
      · rw [if_neg (fun t => y (q.mp t.2))]
        unfold lfw; rw [if_neg y]
    · rw [if_neg (fun t => z (lfw_1.mp t.1))]
      unfold lfw; rw [if_neg (by omega)]
  have no : F_X10_word_L41 n c25 k (nI m) x2 (nI e) (nI (i + 1)) (up2 M 7 i (nI 0)) = F_X10_word_L41 n c25 k (nI m) x2 (nI (max e 0)) (nI (i + 1)) (up2 M 7 i (nI 0)) := by rw [Nat.max_eq_left (Nat.zero_le _)]
  rw [F_X10_word_L41, if_neg (by rw [litN, n_le (by decide) (by omega)]; omega), in11, chk_t, in12, chk_t, in13, chk_t, a9, b9, n_add]
  by_cases y : wa (i + 1) ≤ wa i + m
  · rw [if_pos (show nI (wa (i + 1)) ≤ nI (wa i + m) by rw [n_le (by omega) (by omega)]; exact y), chk_t, a7, nb_and0 _ hlb, hix, lt_s', chk_t, if_neg (by rw [u2_s]; decide), nb_or0 _ he, lt_s', e1, lt_s', key, if_neg (by omega)]
    exact no
  · have w8 := wd_8 i hi m hm (by omega)
    rw [if_neg (show ¬ nI (wa (i + 1)) ≤ nI (wa i + m) by rw [n_le (by omega) (by omega)]; exact y), chk_t, inb_n (by omega) (by decide), chk_t, hs, ob_s, ix_n (by omega), h8, w8.1]
    by_cases z : p + m < L ∧ ch (p + m) = (wd i).getD m 0
    · rw [if_pos (show nI ((wd i).getD m 0) = (if p + m < L then nI (ch (p + m)) else -nI 1) by rw [if_pos z.1, z.2]), chk_t, a7, nb_and1 _ hlb, hix, lt_s', chk_t, u2_s, key]
      by_cases t : lfw ch L p m i = 1
      · rw [t, if_pos (by rfl), nb_or1 _ he, lt_s', e1, lt_s', if_pos ⟨rfl, by omega, z.1, z.2⟩, show max e 1 = 1 by omega]
      · have t0 : lfw ch L p m i = 0 := by omega
        rw [t0, if_neg (by decide), nb_or0 _ he, lt_s', e1, lt_s', if_neg (fun q => absurd q.1 (by decide))]
        exact no
    · have hne : ¬ (nI ((wd i).getD m 0) = (if p + m < L then nI (ch (p + m)) else -nI 1)) := by
        intro q
        by_cases t : p + m < L
        · rw [if_pos t, n_eq (by omega) (by have := h.2.2.2.2.2 _ t; omega)] at q
          exact z ⟨t, q.symm⟩
        · rw [if_neg t] at q
          have q' := q.symm
          rw [n_m_ne (by omega)] at q'
          exact q'
      rw [if_neg hne, chk_t, a7, nb_and0 _ hlb, hix, lt_s', chk_t, if_neg (by rw [u2_s]; decide), nb_or0 _ he, lt_s', e1, lt_s', key, if_neg (fun q => z q.2.2)]
      exact no
theorem W41_go {c25 : Int32 → Int32 → Mem → Option (Int32 × Mem)} {x2 : Int32} {p m k : Nat} (hp : p ≤ L) (hm : m < 7) : ∀ (j i : Nat) (M : Mem), i + j = 11 → RT M L (p + m) ch → M 8 = ups wdL 59 → M 9 = ups waL 12 → (∀ w, w < 11 → M 7 w = nI (if w < i then lfw ch L p (m + 1) w else lfw ch L p m w)) →
    ∃ M', F_X10_word_L41 n c25 (k + j) (nI m) x2 (nI (anyW ch L p (m + 1) i)) (nI i) M = F_X10_word_L41 n c25 k (nI m) x2 (nI (anyW ch L p (m + 1) 11)) (nI 11) M' ∧ (∀ r, r ≠ 7 → M' r = M r) ∧ ∀ w, w < 11 → M' 7 w = nI (lfw ch L p (m + 1) w)
  | 0, i, M, hij, h, h8, h9, h7 => by
    have : i = 11 := by omega
    subst this
    exact ⟨M, rfl, fun _ _ => rfl, fun w hw => by rw [h7 w hw, if_pos hw]⟩
  | j + 1, i, M, hij, h, h8, h9, h7 => by
    have hs := W41_step (n := n) (c25 := c25) (x2 := x2) (k := k + j) h hp hm (by omega : i < 11) (anyW_b (ch := ch) (L := L) (p := p) (m := m + 1) i) h8 h9 (by rw [h7 i (by omega), if_neg (Nat.lt_irrefl i)])
    obtain ⟨M', c1, c2, c3⟩ := W41_go (c25 := c25) (x2 := x2) (k := k) hp hm j (i + 1) (up2 M 7 i (nI (lfw ch L p (m + 1) i))) (by omega) (h.next ⟨fun k a b => u2_k b, fun j _ _ => by rw [u2_k (by decide)]⟩ (by rw [u2_k (by decide)]; exact h.2.2.1) (by rw [u2_k (by decide)]; exact h.2.2.2.1)) (by rw [u2_k (by decide)]; exact h8) (by rw [u2_k (by decide)]; exact h9) (fun w hw => by
      by_cases z : w = i
      · subst z; rw [u2_s, if_pos (by omega)]
      · rw [u2_j z, h7 w hw]
        by_cases y : w < i
        · rw [if_pos y, if_pos (by omega)]
        · rw [if_neg y, if_neg (by omega)])
    rw [anyW] at c1
    exact ⟨M', by rw [show k + (j + 1) = k + j + 1 by omega, hs, c1], fun r hr => by rw [c2 r hr, u2_k hr], c3⟩
theorem W167_go {c25 : Int32 → Int32 → Mem → Option (Int32 × Mem)} {p m k : Nat} (hm : m < 8) (h9 : M 9 = ups waL 12) (h7 : ∀ w, w < 11 → M 7 w = nI (lfw ch L p m w)) : ∀ (j i : Nat), i + j = 11 →
    F_X10_word_L167 n c25 (k + 1 + j) (nI m) (isW ch L p m i) (nI i) M = c25 (nI m) (isW ch L p m 11) M
  | 0, i, hij => by
    have : i = 11 := by omega
    subst this
    rw [Nat.add_zero, F_X10_word_L167, if_pos (by decide)]
  | j + 1, i, hij => by
    have ih := W167_go (c25 := c25) (k := k) hm h9 h7 j (i + 1) (by omega)
    have ws := wa_s i (by omega)
    have e1 : nI i + 1 = nI (i + 1) := by rw [litN, n_add]
    have hlb := lfw_b (ch := ch) (L := L) (p := p) (m := m) (d := i)
    have a7 : M 7 (ix (nI i)) = nI (lfw ch L p m i) := by rw [ix_n (by omega)]; exact h7 i (by omega)
    have a9 : M 9 (ix (nI i)) = nI (wa i) := by rw [h9, ix_n (by omega)]; exact wa_9 i (by omega)
    have b9 : M 9 (ix (nI (i + 1))) = nI (wa (i + 1)) := by rw [h9, ix_n (by omega)]; exact wa_9 (i + 1) (by omega)
    rw [show k + 1 + (j + 1) = k + 1 + j + 1 by omega, F_X10_word_L167, if_neg (by rw [litN, n_le (by decide) (by omega)]; omega), inb_n (by omega) (by decide), chk_t, a7, inb_n (by omega) (by decide), chk_t, e1, inb_n (by omega) (by decide), chk_t, a9, b9, n_add, lt_s', ← ih, isW]
    by_cases t : lfw ch L p m i = 1
    · rw [t, if_pos (by rfl)]
      by_cases y : m = (wd i).length
      · rw [if_pos (show nI (wa i + m) = nI (wa (i + 1)) by rw [n_eq (by omega) (by omega)]; omega), if_pos ⟨rfl, y⟩]
      · rw [if_neg (show ¬ nI (wa i + m) = nI (wa (i + 1)) by rw [n_eq (by omega) (by omega)]; omega), if_neg (fun q => y q.2)]
        rfl
    · have t0 : lfw ch L p m i = 0 := by omega
      rw [t0, if_neg (by decide), if_neg (fun q => absurd q.1 (by decide))]
      rfl
theorem W2_go {k : Nat} : ∀ (j i : Nat) (M : Mem), i + j = 11 → (∀ w, w < i → M 7 w = nI 1) →
    ∃ M', F_X10_word_L2 n (k + 1 + j) (nI i) M = F_X10_word_L25 n n (nI 0) (-1) M' ∧ (∀ r, r ≠ 7 → M' r = M r) ∧ ∀ w, w < 11 → M' 7 w = nI 1
  | 0, i, M, hij, h => by
    have : i = 11 := by omega
    subst this
    refine ⟨M, ?_, fun _ _ => rfl, h⟩
    rw [Nat.add_zero, F_X10_word_L2, if_pos (by decide)]
    rfl
  | j + 1, i, M, hij, h => by
    have e1 : nI i + 1 = nI (i + 1) := by rw [litN, n_add]
    obtain ⟨M', c1, c2, c3⟩ := W2_go (k := k) j (i + 1) (up2 M 7 i (nI 1)) (by omega) (fun w hw => by
      by_cases z : w = i
      · subst z; exact u2_s
      · rw [u2_j z]; exact h w (by omega))
    refine ⟨M', ?_, fun r hr => by rw [c2 r hr, u2_k hr], c3⟩
    rw [show k + 1 + (j + 1) = k + 1 + j + 1 by omega, F_X10_word_L2, if_neg (by rw [litN, n_le (by decide) (by omega)]; omega), inb_n (by omega) (by decide), chk_t, ix_n (by omega), lt_s', e1, lt_s', ← c1]
    rfl
end WOR
