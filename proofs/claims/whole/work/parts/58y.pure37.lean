/-! ===== PURE: the class's forms ===== -/
def fmN : List (List Nat) := [[102, 114, 111, 103, 32, 68, 68], [112, 97, 100, 32, 68], [104, 111, 112, 32, 78, 32, 68], [100, 105, 118, 101, 32, 78], [109, 111, 116, 105, 111, 110, 32, 78], [108, 105, 115, 116, 32, 68, 32, 78], [115, 116, 114, 105, 107, 101, 32, 68, 32, 78], [99, 97, 108, 108, 32, 68], [101, 110, 100, 32, 68, 32, 78], [99, 114, 111, 97, 107, 32, 68, 32, 78, 83, 68], [100, 101, 99, 105, 100, 101, 32, 68]]
def fm (d : Nat) : List Nat := fmN.getD d []
def nis : List Nat → Nat
  | [] => 0
  | x :: f => isn x + nis f
theorem fm_len : ∀ d, d < 11 → fLenl.getD d 0 = (fm d).length ∧ (fm d).length ≤ 11 ∧ nis (fm d) ≤ 4 := by decide
theorem fm_x : ∀ d, d < 11 → ∀ x, x ∈ fm d → 0 < x ∧ x < 127 := by decide
theorem fm_at : ∀ d, d < 11 → ∀ i, i < 11 → i < (fm d).length → inb (nI i) (fLenl.getD d 0) = true ∧ (((((fBytl.getD d []).getD (ix (nI i)) 0) &&& 255).toUInt32 % 65536).toInt32) = nI ((fm d).getD i 0) := by decide +kernel
section CFORM
variable {n : Nat} {T M : Mem} {ch : Nat → Nat}
theorem S_len {d : Nat} (hd : d < 11) : F_J0_length_8abf5_S n d M = some (nI (fm d).length) := by
  have e : F_J0_length_8abf5_S n d M = some ((nI (fLenl.getD d 0)) >>> (nI 0 &&& nI 31)) := rfl
  have h := fm_len d hd
  rw [e, h.1, sh0r (by omega)]
theorem S_at {d i : Nat} (hd : d < 11) (hi : i < (fm d).length) : F_J0_charAt_5068e_S n d (nI i) M = some (nI ((fm d).getD i 0)) := by
  have h := fm_len d hd
  obtain ⟨h1, h2⟩ := fm_at d hd i (by omega) hi
  have hb := fm_x d hd ((fm d).getD i 0) (by rw [List.getD_eq_getElem?_getD, List.getElem?_eq_getElem hi]; exact List.getElem_mem hi)
  have hci : F_J0_checkIndex_df160 n (nI i) (nI (fLenl.getD d 0)) M = some () := by
    unfold F_J0_checkIndex_df160 F_J3_checkIndex_8e157
    rw [if_neg (by rw [litN, n_lt (by omega) (by decide)]; omega), if_pos (by rw [n_lt (by omega) (by omega), h.1]; exact hi)]
    rfl
  have e : F_J1_charAt_3b067_S n d (nI i) M = some (nI ((fm d).getD i 0)) := by
    unfold F_J1_charAt_3b067_S
    rw [hci, ob_s, h1, chk_t, h2]
  have e2 : F_J0_charAt_5068e_S n d (nI i) M = ob (F_J1_charAt_3b067_S n d (nI i) M) (fun r_5 => chk (isC r_5) (some r_5)) := rfl
  rw [e2, e, ob_s, isC_all _ (by omega), chk_t]
theorem L14_step {o2 d i k : Nat} (hd : d < 11) (hi : i < (fm d).length) : F_X4_readForm_L14 n T 346 o2 d (k + 1) (nI 1) (nI i) M = ob2 (Cp n T o2 (nI ((fm d).getD i 0)) M) (fun r M' => F_X4_readForm_L14 n T 346 o2 d k r (nI (i + 1)) M') := by
  have h := fm_len d hd
  have e2 : nI i + 1 = nI (i + 1) := by rw [litN, n_add]
  rw [F_X4_readForm_L14, if_neg (by rw [litN, n10]; exact id), S_len hd, ob_s, if_neg (by rw [n_le (by omega) (by omega)]; omega), S_at hd hi, ob_s]
  unfold Cp
  by_cases a : nI ((fm d).getD i 0) = 68
  · rw [if_pos a, if_pos a, e2]; rfl
  · rw [if_neg a, if_neg a]
    by_cases b : nI ((fm d).getD i 0) = 78
    · rw [if_pos b, if_pos b, e2]; rfl
    · rw [if_neg b, if_neg b]
      by_cases c : nI ((fm d).getD i 0) = 83
      · rw [if_pos c, if_pos c, e2]; rfl
      · rw [if_neg c, if_neg c, e2]; rfl
theorem L14_end {o2 d i k : Nat} (hd : d < 11) (hi : (fm d).length ≤ i) (hi2 : i < 100) : F_X4_readForm_L14 n T 346 o2 d (k + 1) (nI 1) (nI i) M = some (nI 1, M) := by
  have h := fm_len d hd
  rw [F_X4_readForm_L14, if_neg (by rw [litN, n10]; exact id), S_len hd, ob_s, if_pos (by rw [n_le (by omega) (by omega)]; exact hi)]
  rfl
theorem L14_no {o2 d k : Nat} {y : Int32} : F_X4_readForm_L14 n T 346 o2 d (k + 1) (nI 0) y M = some (nI 0, M) := rfl
theorem C_form_go {L cap o2 d : Nat} (hn : 14 ≤ n) (hd : d < 11) (hL : L ≤ 60) (h32 : ∀ k, k < L → 32 ≤ ch k) (ho1 : 348 ≤ o2) (ho2 : o2 + 1 < 370) : ∀ (f : List Nat) (k i p q : Nat) (g : Nat → Nat) (M : Mem), (fm d).drop i = f → i ≤ (fm d).length → f.length < k → q + nis f ≤ 4 → p ≤ L → TB T M 370 372 0 L cap ch → M 346 2 = nI p → M o2 2 = nI q → (∀ t, t < q → M (o2 + 1) t = nI (g t)) →
    ∃ M1, F_X4_readForm_L14 n T 346 o2 d k (nI 1) (nI i) M = some (nI (pf ch L f p q g).1, M1) ∧ M1 346 2 = nI (pf ch L f p q g).2.1 ∧ CF2 M M1 o2 ∧ ((pf ch L f p q g).1 ≠ 0 → ∀ t, t < (pf ch L f p q g).2.2.1 → M1 (o2 + 1) t = nI ((pf ch L f p q g).2.2.2 t)) := by
  intro f
  induction f with
  | nil =>
    intro k i p q g M hf hi0 hk hq hp h hpp ho hg
    have hl := fm_len d hd
    obtain ⟨k, rfl⟩ : ∃ k', k = k' + 1 := ⟨k - 1, by simp only [List.length_nil] at hk; omega⟩
    have hi : (fm d).length ≤ i := by
      have := congrArg List.length hf
      rw [List.length_drop, List.length_nil] at this
      omega
    rw [L14_end hd hi (by omega)]
    exact ⟨M, rfl, hpp, CF2.refl, fun _ => hg⟩
  | cons x f ih =>
    intro k i p q g M hf hi0 hk hq hp h hpp ho hg
    have hl := fm_len d hd
    obtain ⟨k, rfl⟩ : ∃ k', k = k' + 2 := ⟨k - 2, by simp only [List.length_cons] at hk; omega⟩
    have hi : i < (fm d).length := by
      have := congrArg List.length hf
      rw [List.length_drop, List.length_cons] at this
      omega
    have hx : (fm d).getD i 0 = x := by
      have := List.drop_eq_getElem_cons hi
      rw [hf] at this
      rw [List.getD_eq_getElem?_getD, List.getElem?_eq_getElem hi, Option.getD_some]
      exact (List.cons.inj this).1.symm
    have hf' : (fm d).drop (i + 1) = f := by
      have := List.drop_eq_getElem_cons hi
      rw [hf] at this
      exact (List.cons.inj this).2.symm
    have hxm : x ∈ fm d := by
      rw [← hx, List.getD_eq_getElem?_getD, List.getElem?_eq_getElem hi]; exact List.getElem_mem hi
    have hb := fm_x d hd x hxm
    have hnis : nis (x :: f) = isn x + nis f := rfl
    obtain ⟨M1, c1, c2, c3, c4, c5, c6⟩ := C_part (n := n) (x := x) hn h h32 hpp (by omega) ho (by omega) hb.1 hb.2 ho1 ho2
    rw [L14_step hd hi, hx, c1, ob2_s, pf]
    rcases pp_one (ch := ch) (L := L) (x := x) (p := p) with e | ⟨e, _⟩
    · rw [if_pos e, e, L14_no]
      exact ⟨M1, rfl, c2, c5, fun z => absurd rfl z⟩
    · rw [if_neg (by rw [e]; decide), e]
      obtain ⟨M2, d1, d2, d3, d4⟩ := ih (k + 1) (i + 1) (pp ch L x p).2.1 (q + isn x) (gs g x q (pp ch L x p).2.2) M1 hf' (by omega) (by simp only [List.length_cons] at hk; omega) (by omega) (pp_le hp) (h.fr (c5.1 370 (by decide) (by omega) (by omega))) c2 c3 (fun t ht => by
        have h01 : isn x = 0 ∨ isn x = 1 := by unfold isn; split <;> omega
        unfold gs
        rcases h01 with z | z
        · rw [if_neg (by omega), c6 t (by omega)]
          exact hg t (by omega)
        · rw [if_pos z]
          show _ = nI (if t = q then _ else _)
          by_cases z2 : t = q
          · rw [if_pos z2, z2]; exact c4 z
          · rw [if_neg z2, c6 t z2]
            exact hg t (by omega))
      exact ⟨M2, d1, d2, c5.trans d3, d4⟩
/-- the class tries the form d -/
theorem C_form {L cap o2 d p : Nat} {M : Mem} (hn : 14 ≤ n) (hd : d < 11) (hL : L ≤ 60) (h32 : ∀ k, k < L → 32 ≤ ch k) (ho1 : 348 ≤ o2) (ho2 : o2 + 1 < 370) (hp : p ≤ L) (h : TB T M 370 372 0 L cap ch) (hpp : M 346 2 = nI p) (ho : M o2 2 = nI 0) (ho0 : M o2 0 = nI d) :
    ∃ M1, F_X4_readForm n T 346 o2 M = some (nI (pf ch L (fm d) p 0 (fun _ => 0)).1, M1) ∧ M1 346 2 = nI (pf ch L (fm d) p 0 (fun _ => 0)).2.1 ∧ CF2 M M1 o2 ∧ ((pf ch L (fm d) p 0 (fun _ => 0)).1 ≠ 0 → ∀ t, t < (pf ch L (fm d) p 0 (fun _ => 0)).2.2.1 → M1 (o2 + 1) t = nI ((pf ch L (fm d) p 0 (fun _ => 0)).2.2.2 t)) := by
  have hl := fm_len d hd
  have e : F_X4_readForm n T 346 o2 M = F_X4_readForm_L14 n T 346 o2 d n (nI 1) (nI 0) M := by
    unfold F_X4_readForm
    rw [ho0, ix_n (by omega), lt_s', decide_eq_true hd, chk_t]
    rfl
  rw [e]
  exact C_form_go hn hd hL h32 ho1 ho2 (fm d) n 0 p 0 _ M rfl (Nat.zero_le _) (by omega) (by omega) hp h hpp ho (fun t ht => absurd ht (Nat.not_lt_zero _))
end CFORM
