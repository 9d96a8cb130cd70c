/-! ===== PURE: the words; the class reads a command ===== -/
def wdN : List (List Nat) := [[102, 114, 111, 103, 32], [112, 97, 100, 32], [104, 111, 112, 32], [100, 105, 118, 101, 32], [109, 111, 116, 105, 111, 110, 32], [108, 105, 115, 116, 32], [115, 116, 114, 105, 107, 101, 32], [99, 97, 108, 108, 32], [101, 110, 100, 32], [99, 114, 111, 97, 107, 32], [100, 101, 99, 105, 100, 101, 32]]
def tlN : List (List Nat) := [[68, 68], [68], [78, 32, 68], [78], [78], [68, 32, 78], [68, 32, 78], [68], [68, 32, 78], [68, 32, 78, 83, 68], [68]]
def wd (d : Nat) : List Nat := wdN.getD d []
def tl (d : Nat) : List Nat := tlN.getD d []
/-- how many letters of f stand at p -/
def cpf (ch : Nat → Nat) (L : Nat) : List Nat → Nat → Nat
  | [], _ => 0
  | x :: f, p => if p < L ∧ ch p = x then cpf ch L f (p + 1) + 1 else 0
theorem fm_wt : ∀ d, d < 11 → fm d = wd d ++ tl d := by decide
theorem wd_len : ∀ d, d < 11 → 4 ≤ (wd d).length ∧ (wd d).length ≤ 7 ∧ 1 ≤ (tl d).length := by decide
theorem wd_isn : ∀ d, d < 11 → ∀ x, x ∈ wd d → isn x = 0 := by decide
theorem wd_pf : ∀ d, d < 11 → ∀ e, e < 11 → d ≠ e → ∃ i, i < 7 ∧ i < (wd d).length ∧ i < (wd e).length ∧ (wd d).getD i 0 ≠ (wd e).getD i 0 := by decide
section WRD
variable {n : Nat} {T M : Mem} {ch : Nat → Nat} {L : Nat}
theorem cpf_le : ∀ (f : List Nat) p, cpf ch L f p ≤ f.length
  | [], _ => Nat.le_refl _
  | x :: f, p => by
    rw [cpf]
    split
    · have := cpf_le f (p + 1)
      rw [List.length_cons]; omega
    · exact Nat.zero_le _
theorem cpf_step : ∀ (f : List Nat) p i, i ≤ cpf ch L f p → ((i < f.length ∧ p + i < L ∧ ch (p + i) = f.getD i 0) ↔ i + 1 ≤ cpf ch L f p)
  | [], p, i => by
    intro h
    simp only [List.length_nil, cpf] at h ⊢
    omega
  | x :: f, p, 0 => by
    intro _
    rw [cpf, Nat.add_zero, List.getD_cons_zero, List.length_cons]
    by_cases e : p < L ∧ ch p = x
    · rw [if_pos e]
      exact ⟨fun _ => by omega, fun _ => ⟨by omega, e.1, e.2⟩⟩
    · rw [if_neg e]
      exact ⟨fun q => absurd q.2 e, fun q => by omega⟩
  | x :: f, p, i + 1 => by
    rw [cpf, List.getD_cons_succ, List.length_cons]
    by_cases e : p < L ∧ ch p = x
    · rw [if_pos e]
      intro h
      have ih := cpf_step f (p + 1) i (by omega)
      rw [show p + (i + 1) = p + 1 + i by omega]
      constructor
      · intro ⟨a, b, c⟩
        have := ih.mp ⟨by omega, b, c⟩
        omega
      · intro q
        have ⟨a, b, c⟩ := ih.mpr (by omega)
        exact ⟨by omega, b, c⟩
    · rw [if_neg e]
      intro h
      omega
theorem cpf_at {f : List Nat} {p i : Nat} (h : i < cpf ch L f p) : i < f.length ∧ p + i < L ∧ ch (p + i) = f.getD i 0 := (cpf_step f p i (by omega)).mpr h
theorem wd_one {d e p : Nat} (hd : d < 11) (he : e < 11) (h : cpf ch L (wd d) p = (wd d).length) (hne : d ≠ e) : cpf ch L (wd e) p < (wd d).length ∧ cpf ch L (wd e) p < (wd e).length := by
  obtain ⟨i, _, i1, i2, i3⟩ := wd_pf d hd e he hne
  have a := (cpf_at (ch := ch) (L := L) (f := wd d) (p := p) (i := i) (by omega)).2.2
  by_cases z : i < cpf ch L (wd e) p
  · have b := (cpf_at z).2.2
    exact absurd (a.symm.trans b) i3
  · omega
theorem pp_letter {x p : Nat} (h : isn x = 0) : pp ch L x p = if p < L ∧ ch p = x then (1, p + 1, 0) else (0, p, 0) := by
  have h3 : x ≠ 68 ∧ x ≠ 78 ∧ x ≠ 83 := by
    unfold isn at h
    split at h
    · omega
    · omega
  unfold pp
  rw [if_neg h3.1, if_neg h3.2.1, if_neg h3.2.2]
theorem pf_word : ∀ (w : List Nat) p q g t, (∀ x, x ∈ w → isn x = 0) → pf ch L (w ++ t) p q g = if cpf ch L w p = w.length then pf ch L t (p + w.length) q g else (0, p + cpf ch L w p, q, g)
  | [], p, q, g, t, _ => rfl
  | x :: w, p, q, g, t, h => by
    have hx := h x (List.mem_cons_self)
    have ih := pf_word w (p + 1) q g t (fun y hy => h y (List.mem_cons_of_mem _ hy))
    rw [List.cons_append, pf, pp_letter hx, cpf, List.length_cons]
    by_cases e : p < L ∧ ch p = x
    · rw [if_pos e, if_pos e, if_neg (Nat.one_ne_zero : ¬ ((1, p + 1, 0) : Nat × Nat × Nat).1 = 0), hx]
      have hg : gs g x q 0 = g := by unfold gs; rw [if_neg (by omega)]
      show pf ch L (w ++ t) (p + 1) q (gs g x q 0) = _
      rw [hg, ih]
      by_cases z : cpf ch L w (p + 1) = w.length
      · rw [if_pos z, if_pos (by omega), show p + 1 + w.length = p + (w.length + 1) by omega]
      · rw [if_neg z, if_neg (by omega), show p + 1 + cpf ch L w (p + 1) = p + (cpf ch L w (p + 1) + 1) by omega]
    · rw [if_neg e, if_neg e, if_pos rfl, if_neg (by omega)]
      rfl
def g0 : Nat → Nat := fun _ => 0
theorem pf_fm {d p : Nat} (hd : d < 11) : pf ch L (fm d) p 0 g0 = if cpf ch L (wd d) p = (wd d).length then pf ch L (tl d) (p + (wd d).length) 0 g0 else (0, p + cpf ch L (wd d) p, 0, g0) := by
  rw [fm_wt d hd]
  exact pf_word (wd d) p 0 g0 (tl d) (wd_isn d hd)
def CF3 (M M1 : Mem) (o2 : Nat) : Prop := (∀ k, k ≠ 346 → k ≠ o2 → k ≠ o2 + 1 → M1 k = M k) ∧ ∀ j, j ≠ 2 → M1 346 j = M 346 j
theorem CF3.trans {M M1 M2 : Mem} {o2 : Nat} (h : CF3 M M1 o2) (h' : CF3 M1 M2 o2) : CF3 M M2 o2 :=
  ⟨fun k a b c => (h'.1 k a b c).trans (h.1 k a b c), fun j a => (h'.2 j a).trans (h.2 j a)⟩
theorem L11_step {cap o2 d p far k : Nat} (hn : 14 ≤ n) (hd : d < 11) (hL : L ≤ 60) (h32 : ∀ k, k < L → 32 ≤ ch k) (ho1 : 348 ≤ o2) (ho2 : o2 + 1 < 370) (hp : p ≤ L) (hf : far ≤ L) (h : TB T M 370 372 0 L cap ch) :
    ∃ M1, CF3 M M1 o2 ∧ M1 346 2 = nI (pf ch L (fm d) p 0 g0).2.1 ∧ M1 o2 0 = nI d ∧ ((pf ch L (fm d) p 0 g0).1 = 0 → F_X4_readCommand_L11 n T 346 o2 (k + 1) (nI p) (nI far) (nI d) M = F_X4_readCommand_L11 n T 346 o2 k (nI p) (nI (max far (pf ch L (fm d) p 0 g0).2.1)) (nI (d + 1)) M1) ∧
    ((pf ch L (fm d) p 0 g0).1 ≠ 0 → F_X4_readCommand_L11 n T 346 o2 (k + 1) (nI p) (nI far) (nI d) M = some (nI 1, M1) ∧ ∀ t, t < (pf ch L (fm d) p 0 g0).2.2.1 → M1 (o2 + 1) t = nI ((pf ch L (fm d) p 0 g0).2.2.2 t)) := by
  have hpo := pf_le (ch := ch) (L := L) (fm d) p 0 g0 hp
  have a1 : 346 ≠ o2 := by omega
  let M9 := up2 (up2 (up2 M 346 2 (nI p)) o2 0 (nI d)) o2 2 (nI 0)
  have e9 : M9 = up2 (up2 (up2 M 346 2 (nI p)) o2 0 (nI d)) o2 2 (nI 0) := rfl
  have f9 : CF3 M M9 o2 := ⟨fun k a b c => by rw [e9, u2_k b, u2_k b, u2_k a], fun j a => by rw [e9, u2_k a1, u2_k a1, u2_j a]⟩
  obtain ⟨M1, c1, c2, c3, c4⟩ := C_form (n := n) (M := M9) hn hd hL h32 ho1 ho2 hp (h.fr (f9.1 370 (by decide) (by omega) (by omega))) (by rw [e9, u2_k a1, u2_k a1, u2_s]) (by rw [e9, u2_s]) (by rw [e9, u2_j (by decide), u2_s])
  have hu : F_X4_readCommand_L11 n T 346 o2 (k + 1) (nI p) (nI far) (nI d) M = ob2 (F_X4_readForm n T 346 o2 M9) (fun r M' => if r = 0 then lt' (if nI far < M' 346 2 then M' 346 2 else nI far) (fun x4 => lt' (nI d + 1) (fun x5 => F_X4_readCommand_L11 n T 346 o2 k (nI p) x4 x5 M')) else some (1, M')) := by
    rw [F_X4_readCommand_L11, if_neg (by rw [litN, n_le (by decide) (by omega)]; omega), lt_s', inb_n hd (by decide), chk_t]
    rfl
  refine ⟨M1, f9.trans ⟨c3.1, c3.2.1⟩, c2, by rw [c3.2.2 0 (by decide), e9, u2_j (by decide), u2_s], fun z => ?_, fun z => ⟨?_, c4 z⟩⟩
  · have z' : (pf ch L (fm d) p 0 (fun _ => 0)).1 = 0 := z
    have c2' : M1 346 2 = nI (pf ch L (fm d) p 0 g0).2.1 := c2
    have e2 : nI d + 1 = nI (d + 1) := by rw [litN, n_add]
    rw [hu, c1, ob2_s, z', if_pos (by rfl), c2', e2]
    have hm : (if nI far < nI (pf ch L (fm d) p 0 g0).2.1 then nI (pf ch L (fm d) p 0 g0).2.1 else nI far) = nI (max far (pf ch L (fm d) p 0 g0).2.1) := by
      by_cases y : far < (pf ch L (fm d) p 0 g0).2.1
      · rw [if_pos (by rw [n_lt (by omega) (by omega)]; exact y), Nat.max_eq_right (by omega)]
      · rw [if_neg (by rw [n_lt (by omega) (by omega)]; exact y), Nat.max_eq_left (by omega)]
    rw [hm]
    rfl
  · have z' : (pf ch L (fm d) p 0 (fun _ => 0)).1 = 1 := (pf_01 _ _ _ _).resolve_left z
    rw [hu, c1, ob2_s, z', if_neg (by rw [litN, n10]; exact id)]
    rfl
/-- the forms from i up to j all fail -/
theorem L11_to {cap o2 p : Nat} (hn : 14 ≤ n) (hL : L ≤ 60) (h32 : ∀ k, k < L → 32 ≤ ch k) (ho1 : 348 ≤ o2) (ho2 : o2 + 1 < 370) (hp : p ≤ L) : ∀ (m i far k : Nat) (M : Mem), i + m ≤ 11 → far ≤ L → TB T M 370 372 0 L cap ch → (∀ d, i ≤ d → d < i + m → (pf ch L (fm d) p 0 g0).1 = 0) →
    ∃ M1 far', F_X4_readCommand_L11 n T 346 o2 (k + m) (nI p) (nI far) (nI i) M = F_X4_readCommand_L11 n T 346 o2 k (nI p) (nI far') (nI (i + m)) M1 ∧ CF3 M M1 o2 ∧ far' ≤ L ∧ far ≤ far' ∧ (∀ d, i ≤ d → d < i + m → (pf ch L (fm d) p 0 g0).2.1 ≤ far') ∧ (far' = far ∨ ∃ d, i ≤ d ∧ d < i + m ∧ far' = (pf ch L (fm d) p 0 g0).2.1)
  | 0, i, far, k, M, _, hf, h, _ => ⟨M, far, rfl, ⟨fun _ _ _ _ => rfl, fun _ _ => rfl⟩, hf, Nat.le_refl _, fun d a b => absurd a (by omega), .inl rfl⟩
  | m + 1, i, far, k, M, him, hf, h, hz => by
    have hpo := pf_le (ch := ch) (L := L) (fm i) p 0 g0 hp
    obtain ⟨M1, c1, c2, c3, c4, _⟩ := L11_step (n := n) (o2 := o2) (d := i) (far := far) (k := k + m) hn (by omega) hL h32 ho1 ho2 hp hf h
    have hz0 := hz i (Nat.le_refl _) (by omega)
    obtain ⟨M2, far', d1, d2, d3, d4, d5, d6⟩ := L11_to hn hL h32 ho1 ho2 hp m (i + 1) (max far (pf ch L (fm i) p 0 g0).2.1) k M1 (by omega) (by omega) (h.fr (c1.1 370 (by decide) (by omega) (by omega))) (fun d a b => hz d (by omega) (by omega))
    refine ⟨M2, far', ?_, c1.trans d2, d3, by omega, fun d a b => ?_, ?_⟩
    · rw [show k + (m + 1) = k + m + 1 by omega, c4 hz0, d1, show i + 1 + m = i + (m + 1) by omega]
    · by_cases e : d = i
      · rw [e]; omega
      · exact d5 d (by omega) (by omega)
    · rcases d6 with d6 | ⟨d, a, b, c⟩
      · by_cases e : far < (pf ch L (fm i) p 0 g0).2.1
        · exact .inr ⟨i, Nat.le_refl _, by omega, by omega⟩
        · exact .inl (by omega)
      · exact .inr ⟨d, by omega, by omega, c⟩
/-- a command stands at p / none stands there, the error at e -/
def okc (ch : Nat → Nat) (L p d p' : Nat) (g : Nat → Nat) : Prop := d < 11 ∧ cpf ch L (wd d) p = (wd d).length ∧ (pf ch L (tl d) (p + (wd d).length) 0 g0).1 ≠ 0 ∧ p' = (pf ch L (tl d) (p + (wd d).length) 0 g0).2.1 ∧ g = (pf ch L (tl d) (p + (wd d).length) 0 g0).2.2.2
def noc (ch : Nat → Nat) (L p e : Nat) : Prop := (∃ d, d < 11 ∧ cpf ch L (wd d) p = (wd d).length ∧ (pf ch L (tl d) (p + (wd d).length) 0 g0).1 = 0 ∧ e = (pf ch L (tl d) (p + (wd d).length) 0 g0).2.1) ∨ ((∀ d, d < 11 → cpf ch L (wd d) p < (wd d).length) ∧ ∃ m, (∀ d, d < 11 → cpf ch L (wd d) p ≤ m) ∧ (∃ d, d < 11 ∧ cpf ch L (wd d) p = m) ∧ e = p + m)
def nnum (d : Nat) : Nat := nis (tl d)
theorem C_cmd_ok {cap o2 p d p' : Nat} {g : Nat → Nat} (hn : 14 ≤ n) (hL : L ≤ 60) (h32 : ∀ k, k < L → 32 ≤ ch k) (ho1 : 348 ≤ o2) (ho2 : o2 + 1 < 370) (hp : p ≤ L) (h : TB T M 370 372 0 L cap ch) (hpp : M 346 2 = nI p) (hok : okc ch L p d p' g) :
    ∃ M1, F_X4_readCommand n T 346 o2 M = some (nI 1, M1) ∧ CF3 M M1 o2 ∧ M1 346 2 = nI p' ∧ M1 o2 0 = nI d ∧ ∀ t, t < (pf ch L (tl d) (p + (wd d).length) 0 g0).2.2.1 → M1 (o2 + 1) t = nI (g t) := by
  obtain ⟨k1, k2, k3, k4, k5⟩ := hok
  obtain ⟨n', rfl⟩ : ∃ n', n = n' + 1 + d := ⟨n - 1 - d, by omega⟩
  have e0 : F_X4_readCommand (n' + 1 + d) T 346 o2 M = F_X4_readCommand_L11 (n' + 1 + d) T 346 o2 (n' + 1 + d) (nI p) (nI p) (nI 0) M := by
    unfold F_X4_readCommand
    rw [hpp]
    rfl
  obtain ⟨M1, far', d1, d2, d3, d4, d5, d6⟩ := L11_to (n := n' + 1 + d) hn hL h32 ho1 ho2 hp d 0 p (n' + 1) M (by omega) hp h (fun e _ he => by
    rw [pf_fm (by omega), if_neg (by have := wd_one (ch := ch) (L := L) (p := p) k1 (by omega : e < 11) k2 (by omega); omega)])
  rw [Nat.zero_add] at d1
  obtain ⟨M2, c1, c2, c3, _, c5⟩ := L11_step (n := n' + 1 + d) (o2 := o2) (d := d) (far := far') (k := n') hn k1 hL h32 ho1 ho2 hp d3 (h.fr (d2.1 370 (by decide) (by omega) (by omega)))
  have hpf : pf ch L (fm d) p 0 g0 = pf ch L (tl d) (p + (wd d).length) 0 g0 := by rw [pf_fm k1, if_pos k2]
  rw [hpf] at c2 c5
  obtain ⟨c6, c7⟩ := c5 k3
  exact ⟨M2, by rw [e0, d1, c6], d2.trans c1, by rw [c2, k4], c3, by rw [k5]; exact c7⟩
theorem C_cmd_no {cap o2 p e : Nat} (hn : 14 ≤ n) (hL : L ≤ 60) (h32 : ∀ k, k < L → 32 ≤ ch k) (ho1 : 348 ≤ o2) (ho2 : o2 + 1 < 370) (hp : p ≤ L) (h : TB T M 370 372 0 L cap ch) (hpp : M 346 2 = nI p) (hno : noc ch L p e) :
    ∃ M1, F_X4_readCommand n T 346 o2 M = some (nI 0, M1) ∧ CF3 M M1 o2 ∧ M1 346 2 = nI e := by
  obtain ⟨m, hm⟩ : ∃ m, m = 11 := ⟨11, rfl⟩
  obtain ⟨n', rfl⟩ : ∃ n', n = n' + 1 + m := ⟨n - 12, by omega⟩
  have e0 : F_X4_readCommand (n' + 1 + m) T 346 o2 M = F_X4_readCommand_L11 (n' + 1 + m) T 346 o2 (n' + 1 + m) (nI p) (nI p) (nI 0) M := by
    unfold F_X4_readCommand
    rw [hpp]
    rfl
  have hz : ∀ d, d < 11 → (pf ch L (fm d) p 0 g0).1 = 0 := by
    intro d hd
    rw [pf_fm hd]
    rcases hno with ⟨w, k1, k2, k3, k4⟩ | ⟨k1, m', k2, k3, k4⟩
    · by_cases z : w = d
      · subst z; rw [if_pos k2]; exact k3
      · rw [if_neg (by have := wd_one k1 hd k2 z; omega)]
    · rw [if_neg (by have := k1 d hd; omega)]
  obtain ⟨M1, far', d1, d2, d3, d4, d5, d6⟩ := L11_to (n := n' + 1 + m) hn hL h32 ho1 ho2 hp m 0 p (n' + 1) M (by omega) hp h (fun d _ hd => hz d (by omega))
  have hfar : far' = e := by
    rcases hno with ⟨w, k1, k2, k3, k4⟩ | ⟨k1, m', k2, ⟨w, k3, k5⟩, k4⟩
    · have q1 := d5 w (Nat.zero_le _) (by omega)
      have q2 := wd_len w k1
      have q3 := pf_pos (ch := ch) (L := L) (tl w) (p + (wd w).length) 0 g0
      rw [pf_fm k1, if_pos k2] at q1
      rcases d6 with d6 | ⟨d, a, b, c⟩
      · omega
      · by_cases z : w = d
        · subst z
          rw [pf_fm k1, if_pos k2] at c
          omega
        · have q4 := wd_one k1 (by omega : d < 11) k2 z
          have q5 : far' = p + cpf ch L (wd d) p := by rw [c, pf_fm (by omega), if_neg (by omega)]
          omega
    · have q1 := d5 w (Nat.zero_le _) (by omega)
      rw [pf_fm k3, if_neg (by have := k1 w k3; omega)] at q1
      have q1 : p + cpf ch L (wd w) p ≤ far' := q1
      rcases d6 with d6 | ⟨d, a, b, c⟩
      · omega
      · have q2 := k1 d (by omega)
        have q3 := k2 d (by omega)
        have q5 : far' = p + cpf ch L (wd d) p := by rw [c, pf_fm (by omega), if_neg (by omega)]
        omega
  refine ⟨up2 M1 346 2 (nI far'), ?_, ⟨fun k a b c => by rw [u2_k a]; exact d2.1 k a b c, fun j a => by rw [u2_j a]; exact d2.2 j a⟩, by rw [u2_s, hfar]⟩
  rw [e0, d1, Nat.zero_add, hm, F_X4_readCommand_L11, if_pos (by decide)]
  rfl
end WRD
