/-! ===== PURE: the parser of both, and the class's form ===== -/
def isn (x : Nat) : Nat := if x = 68 ∨ x = 78 ∨ x = 83 then 1 else 0
/-- one part of a form at p: whether it fits, the place behind it, its number -/
def pp (ch : Nat → Nat) (L x p : Nat) : Nat × Nat × Nat :=
  if x = 68 then (if nc ch L p 1 = 0 then 0 else 1, p + nc ch L p 1, nv ch L p 1)
  else if x = 78 then (if nc ch L p 2 = 0 then 0 else 1, p + nc ch L p 2, nv ch L p 2)
  else if x = 83 then (if p < L ∧ ch p = 43 then (1, p + 1, 1) else if p < L ∧ ch p = 45 then (1, p + 1, 0) else (0, p, 0))
  else if p < L ∧ ch p = x then (1, p + 1, 0) else (0, p, 0)
def gs (g : Nat → Nat) (x q v : Nat) : Nat → Nat := if isn x = 1 then (fun t => if t = q then v else g t) else g
/-- a form at p -/
def pf (ch : Nat → Nat) (L : Nat) : List Nat → Nat → Nat → (Nat → Nat) → Nat × Nat × Nat × (Nat → Nat)
  | [], p, q, g => (1, p, q, g)
  | x :: f, p, q, g => if (pp ch L x p).1 = 0 then (0, (pp ch L x p).2.1, q, g) else pf ch L f (pp ch L x p).2.1 (q + isn x) (gs g x q (pp ch L x p).2.2)
def CF2 (M M1 : Mem) (o2 : Nat) : Prop := (∀ k, k ≠ 346 → k ≠ o2 → k ≠ o2 + 1 → M1 k = M k) ∧ (∀ j, j ≠ 2 → M1 346 j = M 346 j) ∧ ∀ j, j ≠ 2 → M1 o2 j = M o2 j
def Cp (n : Nat) (T : Mem) (o2 : Nat) (r : Int32) (M : Mem) : Option (Int32 × Mem) :=
  if r = 68 then F_X4_readNumber n T 346 1 o2 M else if r = 78 then F_X4_readNumber n T 346 2 o2 M else if r = 83 then F_X4_readSign n T 346 o2 M else F_X4_readCharacter n T 346 r M
section PAR
variable {n : Nat} {T M M1 M2 : Mem} {ch : Nat → Nat}
theorem nc_le {L p m : Nat} : p ≤ L → p + nc ch L p m ≤ L := by
  intro h
  unfold nc dg
  split
  · split
    · omega
    · omega
  · omega
theorem pp_pos {L x p : Nat} : p ≤ (pp ch L x p).2.1 := by
  unfold pp
  split
  · exact Nat.le_add_right _ _
  · split
    · exact Nat.le_add_right _ _
    · repeat' split
      all_goals first | exact Nat.le_succ _ | exact Nat.le_refl _
theorem pp_le {L x p : Nat} (h : p ≤ L) : (pp ch L x p).2.1 ≤ L := by
  unfold pp
  split
  · exact nc_le h
  · split
    · exact nc_le h
    · repeat' split
      all_goals first | exact h | (show p + 1 ≤ L; omega)
theorem pp_one {L x p : Nat} : (pp ch L x p).1 = 0 ∨ (pp ch L x p).1 = 1 ∧ p + 1 ≤ (pp ch L x p).2.1 := by
  unfold pp
  by_cases h1 : x = 68
  · rw [if_pos h1]
    by_cases e : nc ch L p 1 = 0
    · left; show (if _ then 0 else 1) = 0; rw [if_pos e]
    · right; exact ⟨by show (if _ then 0 else 1) = 1; rw [if_neg e], by show p + 1 ≤ p + nc ch L p 1; omega⟩
  · rw [if_neg h1]
    by_cases h2 : x = 78
    · rw [if_pos h2]
      by_cases e : nc ch L p 2 = 0
      · left; show (if _ then 0 else 1) = 0; rw [if_pos e]
      · right; exact ⟨by show (if _ then 0 else 1) = 1; rw [if_neg e], by show p + 1 ≤ p + nc ch L p 2; omega⟩
    · rw [if_neg h2]
      repeat' split
      all_goals first | exact .inl rfl | exact .inr ⟨rfl, Nat.le_refl _⟩
theorem pf_pos {L : Nat} : ∀ (f : List Nat) p q g, p ≤ (pf ch L f p q g).2.1
  | [], p, q, g => Nat.le_refl _
  | x :: f, p, q, g => by
    rw [pf]
    split
    · exact pp_pos
    · exact Nat.le_trans pp_pos (pf_pos f _ _ _)
theorem pf_le {L : Nat} : ∀ (f : List Nat) p q g, p ≤ L → (pf ch L f p q g).2.1 ≤ L
  | [], p, q, g, h => h
  | x :: f, p, q, g, h => by
    rw [pf]
    split
    · exact pp_le h
    · exact pf_le f _ _ _ (pp_le h)
theorem pf_len {L : Nat} : ∀ (f : List Nat) p q g, (pf ch L f p q g).1 ≠ 0 → p + f.length ≤ (pf ch L f p q g).2.1
  | [], p, q, g, _ => Nat.le_refl _
  | x :: f, p, q, g, h => by
    rw [pf] at h ⊢
    split at h
    · exact absurd rfl h
    · rename_i e
      rw [if_neg e]
      have h1 := pf_len f _ _ _ h
      have h2 := pp_one (ch := ch) (L := L) (x := x) (p := p)
      rw [List.length_cons]
      omega
theorem pf_01 {L : Nat} : ∀ (f : List Nat) p q g, (pf ch L f p q g).1 = 0 ∨ (pf ch L f p q g).1 = 1
  | [], p, q, g => .inr rfl
  | x :: f, p, q, g => by
    rw [pf]
    split
    · exact .inl rfl
    · exact pf_01 f _ _ _
theorem CF2.refl {o2 : Nat} : CF2 M M o2 := ⟨fun _ _ _ _ => rfl, fun _ _ => rfl, fun _ _ => rfl⟩
theorem CF2.trans {o2 : Nat} (h : CF2 M M1 o2) (h' : CF2 M1 M2 o2) : CF2 M M2 o2 :=
  ⟨fun k a b c => (h'.1 k a b c).trans (h.1 k a b c), fun j a => (h'.2.1 j a).trans (h.2.1 j a), fun j a => (h'.2.2 j a).trans (h.2.2 j a)⟩
theorem CF2.pos {o2 : Nat} {x : Int32} (h : CF2 M M1 o2) (ho : o2 ≠ 346) : CF2 M (up2 M1 346 2 x) o2 :=
  ⟨fun k a b c => by rw [u2_k a]; exact h.1 k a b c, fun j a => by rw [u2_j a]; exact h.2.1 j a, fun j a => by rw [u2_k ho]; exact h.2.2 j a⟩
theorem CF2.num {o2 q v : Nat} (h : CF2 M M1 o2) (ho : o2 ≠ 346) (ho1 : o2 + 1 ≠ 346) : CF2 M (enN M1 o2 q v) o2 :=
  ⟨fun k a b c => by unfold enN; rw [u2_k b, u2_k c]; exact h.1 k a b c, fun j a => by unfold enN; rw [u2_k (Ne.symm ho), u2_k (Ne.symm ho1)]; exact h.2.1 j a, fun j a => by unfold enN; rw [u2_j a, u2_k (by omega)]; exact h.2.2 j a⟩
theorem enN_2 {o2 q v : Nat} : enN M o2 q v o2 2 = nI (q + 1) := u2_s
theorem enN_v {o2 q v : Nat} : enN M o2 q v (o2 + 1) q = nI v := by
  unfold enN
  rw [u2_k (by omega), u2_s]
theorem enN_o {o2 q v j : Nat} (h : j ≠ q) : enN M o2 q v (o2 + 1) j = M (o2 + 1) j := by
  unfold enN
  rw [u2_k (by omega), u2_j h]
theorem enN_p {o2 q v : Nat} (ho : o2 ≠ 346) (ho1 : o2 + 1 ≠ 346) : enN M o2 q v 346 = M 346 := by
  unfold enN
  rw [u2_k (Ne.symm ho), u2_k (Ne.symm ho1)]
theorem C_part {L cap p o2 q x : Nat} (hn : 14 ≤ n) (h : TB T M 370 372 0 L cap ch) (h32 : ∀ k, k < L → 32 ≤ ch k) (hp : M 346 2 = nI p) (hpL : p < 65000) (ho : M o2 2 = nI q) (hq : q + isn x ≤ 4) (hx0 : 0 < x) (hx : x < 127) (ho1 : 348 ≤ o2) (ho2 : o2 + 1 < 370) :
    ∃ M1, Cp n T o2 (nI x) M = some (nI (pp ch L x p).1, M1) ∧ M1 346 2 = nI (pp ch L x p).2.1 ∧ M1 o2 2 = nI (q + isn x) ∧ (isn x = 1 → M1 (o2 + 1) q = nI (pp ch L x p).2.2) ∧ CF2 M M1 o2 ∧ ∀ j, j ≠ q → M1 (o2 + 1) j = M (o2 + 1) j := by
  have a1 : o2 ≠ 346 := by omega
  have a2 : o2 + 1 ≠ 346 := by omega
  unfold Cp
  by_cases x1 : x = 68
  · subst x1
    have hi : isn 68 = 1 := rfl
    rw [hi] at hq
    rw [if_pos (by rfl), hi]
    have hc : F_X4_readNumber n T 346 1 o2 M = _ := C_num (m := 1) hn h hp hpL ho (by omega) (.inl rfl) a1 (by omega)
    rw [hc]
    rw [show pp ch L 68 p = (if nc ch L p 1 = 0 then 0 else 1, p + nc ch L p 1, nv ch L p 1) from rfl]
    by_cases e : nc ch L p 1 = 0
    · rw [if_pos e, if_pos e, if_pos e]
      exact ⟨_, rfl, by rw [enN_p a1 a2, e]; exact hp, enN_2, fun _ => enN_v, CF2.refl.num a1 a2, fun j a => enN_o a⟩
    · rw [if_neg e, if_neg e, if_neg e]
      exact ⟨_, rfl, by rw [enN_p a1 a2, u2_s], enN_2, fun _ => enN_v, (CF2.refl.pos a1).num a1 a2, fun j a => by rw [enN_o a, u2_k a2]⟩
  · rw [if_neg (by rw [litN, n_eq (by omega) (by decide)]; exact x1)]
    by_cases x2 : x = 78
    · subst x2
      have hi : isn 78 = 1 := rfl
      rw [hi] at hq
      rw [if_pos (by rfl), hi]
      have hc : F_X4_readNumber n T 346 2 o2 M = _ := C_num (m := 2) hn h hp hpL ho (by omega) (.inr rfl) a1 (by omega)
      rw [hc]
      rw [show pp ch L 78 p = (if nc ch L p 2 = 0 then 0 else 1, p + nc ch L p 2, nv ch L p 2) from rfl]
      by_cases e : nc ch L p 2 = 0
      · rw [if_pos e, if_pos e, if_pos e]
        exact ⟨_, rfl, by rw [enN_p a1 a2, e]; exact hp, enN_2, fun _ => enN_v, CF2.refl.num a1 a2, fun j a => enN_o a⟩
      · rw [if_neg e, if_neg e, if_neg e]
        exact ⟨_, rfl, by rw [enN_p a1 a2, u2_s], enN_2, fun _ => enN_v, (CF2.refl.pos a1).num a1 a2, fun j a => by rw [enN_o a, u2_k a2]⟩
    · rw [if_neg (by rw [litN, n_eq (by omega) (by decide)]; exact x2)]
      by_cases x3 : x = 83
      · subst x3
        have hi : isn 83 = 1 := rfl
        rw [hi] at hq
        rw [if_pos (by rfl), hi, C_sign h h32 hp hpL ho (by omega) a1 a2 (by omega)]
        rw [show pp ch L 83 p = (if p < L ∧ ch p = 43 then (1, p + 1, 1) else if p < L ∧ ch p = 45 then (1, p + 1, 0) else (0, p, 0)) from rfl]
        by_cases e : p < L ∧ ch p = 43
        · rw [if_pos e, if_pos e]
          exact ⟨_, rfl, u2_s, by rw [u2_k a1]; exact enN_2, fun _ => by rw [u2_k a2]; exact enN_v, (CF2.refl.num a1 a2).pos a1, fun j a => by rw [u2_k a2]; exact enN_o a⟩
        · rw [if_neg e, if_neg e]
          by_cases e2 : p < L ∧ ch p = 45
          · rw [if_pos e2, if_pos e2]
            exact ⟨_, rfl, u2_s, by rw [u2_k a1]; exact enN_2, fun _ => by rw [u2_k a2]; exact enN_v, (CF2.refl.num a1 a2).pos a1, fun j a => by rw [u2_k a2]; exact enN_o a⟩
          · rw [if_neg e2, if_neg e2]
            exact ⟨_, rfl, by rw [enN_p a1 a2]; exact hp, enN_2, fun _ => enN_v, CF2.refl.num a1 a2, fun j a => enN_o a⟩
      · rw [if_neg (by rw [litN, n_eq (by omega) (by decide)]; exact x3), C_mark h h32 hp hpL hx hx0]
        have hi : isn x = 0 := by unfold isn; rw [if_neg (by omega)]
        unfold pp
        rw [if_neg x1, if_neg x2, if_neg x3, hi]
        by_cases e : p < L ∧ ch p = x
        · rw [if_pos e, if_pos e]
          exact ⟨_, rfl, u2_s, by rw [u2_k a1]; exact ho, fun z => absurd z (by decide), CF2.refl.pos a1, fun j a => by rw [u2_k a2]⟩
        · rw [if_neg e, if_neg e]
          exact ⟨_, rfl, hp, ho, fun z => absurd z (by decide), CF2.refl, fun j a => rfl⟩
end PAR
