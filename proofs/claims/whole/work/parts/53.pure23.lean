/-! ===== PURE: a number written into a builder ===== -/
theorem nneg : ∀ x, x < 12 → -(-nI x) = nI x := by decide +kernel
theorem nneg100 : ∀ x, x < 12 → (-nI 100 < -nI x) := by decide +kernel
theorem nneg9 : ∀ x, x < 12 → ((-nI 9 ≤ -nI x) ↔ x < 10) := by decide +kernel
theorem dOn_all : ∀ x, x < 12 → dOnl.getD x (nI 0) = nI (48 + x % 10) := by decide +kernel
theorem dTe_all : ∀ x, x < 12 → dTel.getD x (nI 0) = nI (48 + x / 10) := by decide +kernel
theorem ssz (n : Nat) (M : Mem) : ∀ x, x < 12 → F_J6_stringSize_0f7a4 (n + 3) (nI x) M = some (nI (if x < 10 then 1 else 2)) := by
  intro x hx
  rcases (by omega : x = 0 ∨ x = 1 ∨ x = 2 ∨ x = 3 ∨ x = 4 ∨ x = 5 ∨ x = 6 ∨ x = 7 ∨ x = 8 ∨ x = 9 ∨ x = 10 ∨ x = 11) with h | h | h | h | h | h | h | h | h | h | h | h <;> subst h <;> rfl
theorem n_m1 {L : Nat} (h : 1 ≤ L) (h2 : L < 2147483648) : nI L + -nI 1 = nI (L - 1) := by
  rw [← Int32.sub_eq_add_neg, n_sub h]
def putC (s : Nat × (Nat → Nat)) (x : Nat) : Nat × (Nat → Nat) := (s.1 + 1, fun k => if k = s.1 then x else s.2 k)
def putN (s : Nat × (Nat → Nat)) (x : Nat) : Nat × (Nat → Nat) := if x < 10 then putC s (48 + x) else putC (putC s 49) (48 + x % 10)
section NUM
variable {n : Nat} {T M Mm : Mem}
theorem TB.put {ob bt cp L cap x : Nat} {ch : Nat → Nat} (h : TB T M ob bt cp L cap ch) (hL : L < cap) (hx : x ≤ 126) (hbt : bt ≠ 374) : TB (up2 T bt L (nI x)) (up2 M ob 3 (nI (L + 1))) ob bt cp (L + 1) cap (fun k => if k = L then x else ch k) := by
  obtain ⟨h1, h3, hc, hl, h7, hr, hf⟩ := h
  refine ⟨by rw [u2_j (by decide)]; exact h1, u2_s, by rw [u2_k (Ne.symm hbt)]; exact hc, hL, h7, fun k hk => ?_, fun k hk => ?_⟩
  · by_cases e : k = L
    · subst e; rw [u2_s]; simp only [if_true]; exact ⟨trivial, hx⟩
    · rw [u2_j e]; simp only [e, if_false]; exact hr k (by omega)
  · by_cases e : k = L
    · subst e; rw [u2_s]; exact ⟨x, hx, rfl⟩
    · rw [u2_j e]; exact hf k hk
theorem og_s {α β : Type} {a : α} {T M : Mem} {f : α → Mem → Mem → Option β} : og (some (a, T, M)) f = f a T M := rfl
theorem g_chars1 {L cap x : Nat} (hx : x < 12) (hx10 : x < 10) (hL : L < 68) (hc : cap ≤ 70) (hLc : L < cap) (hkc : T 374 1 = nI cap) : Fg_J6_getChars_ba4f3_l n T (nI x) (nI (L + 1)) M = some (nI L, up2 T 373 L (nI (48 + x)), M) := by
  have hxb : inb (nI x) 100 = true := inb_n (by omega) (by decide)
  have hin : inb (nI L) cap = true := inb_n (by omega) (by omega)
  have hdo := dOn_all x hx
  rw [show x % 10 = x by omega] at hdo
  have hnn := nneg x hx
  have h100 := nneg100 x hx
  have e9 := (nneg9 x hx).mpr hx10
  have hnar := nar_all2 (48 + x) (by omega)
  have hbT : bT T 373 (nI L) (nI (48 + x)) = up2 T 373 L (nI (48 + x)) := by unfold bT; rw [ix_n (by omega), hnar]
  have e1 : nI (L + 1) + -nI 1 = nI L := n_m1 (by omega) (by omega)
  have h0 : nI 0 ≤ nI x := by rw [n_le (by decide) (by omega)]; exact Nat.zero_le _
  unfold Fg_J6_getChars_ba4f3_l
  simp only [litI, lt_s', if_true]
  rw [if_pos h0, if_pos h100, e1, hnn, hxb, chk_t, hkc, ix_n (by omega), hin, chk_t, ix_n (by omega), hdo, hbT, if_pos e9]
theorem g_chars2 {L cap x : Nat} (hx : x < 12) (hx10 : ¬ x < 10) (hL : L < 68) (hc : cap ≤ 70) (hLc : L + 1 < cap) (hkc : T 374 1 = nI cap) : Fg_J6_getChars_ba4f3_l n T (nI x) (nI (L + 2)) M = some (nI L, up2 (up2 T 373 (L + 1) (nI (48 + x % 10))) 373 L (nI 49), M) := by
  have hxb : inb (nI x) 100 = true := inb_n (by omega) (by decide)
  have hin : inb (nI L) cap = true := inb_n (by omega) (by omega)
  have hin1 : inb (nI (L + 1)) cap = true := inb_n (by omega) (by omega)
  have hdo := dOn_all x hx
  have hdt := dTe_all x hx
  rw [show 48 + x / 10 = 49 by omega] at hdt
  have hnn := nneg x hx
  have h100 := nneg100 x hx
  have e9 : ¬ (-nI 9 ≤ -nI x) := fun q => hx10 ((nneg9 x hx).mp q)
  have hnar := nar_all2 (48 + x % 10) (by omega)
  have hnar1 := nar_all2 49 (by omega)
  have hbT1 : bT T 373 (nI (L + 1)) (nI (48 + x % 10)) = up2 T 373 (L + 1) (nI (48 + x % 10)) := by unfold bT; rw [ix_n (by omega), hnar]
  have hbT2 : bT (up2 T 373 (L + 1) (nI (48 + x % 10))) 373 (nI L) (nI 49) = up2 (up2 T 373 (L + 1) (nI (48 + x % 10))) 373 L (nI 49) := by unfold bT; rw [ix_n (by omega), hnar1]
  have hkc2 : up2 T 373 (L + 1) (nI (48 + x % 10)) 374 1 = nI cap := by rw [u2_k (by decide)]; exact hkc
  have e1 : nI (L + 2) + -nI 1 = nI (L + 1) := n_m1 (by omega) (by omega)
  have e2 : nI (L + 1) + -nI 1 = nI L := n_m1 (by omega) (by omega)
  have h0 : nI 0 ≤ nI x := by rw [n_le (by decide) (by omega)]; exact Nat.zero_le _
  unfold Fg_J6_getChars_ba4f3_l
  simp only [litI, lt_s', if_true]
  rw [if_pos h0, if_pos h100, e1, hnn, hxb, chk_t, hkc, ix_n (by omega : cap < 2147483648), hin1, chk_t, ix_n (by omega : x < 2147483648), hdo, hbT1, if_neg e9, e2, chk_t, hkc2, ix_n (by omega : cap < 2147483648), hin, chk_t, hdt, hbT2]
theorem g_num1 {L cap x : Nat} {ch : Nat → Nat} (hn : 13 ≤ n) (h : TB T M 371 373 1 L cap ch) (hL : L < 60) (hx : x < 12) (hx10 : x < 10) : ∃ T' cap', Fg_J4_append_bf812_l n T (nI x) M = some ((), T', up2 M 371 3 (nI (putN (L, ch) x).1)) ∧ TB T' (up2 M 371 3 (nI (putN (L, ch) x).1)) 371 373 1 (putN (L, ch) x).1 cap' (putN (L, ch) x).2 ∧ T' 372 = T 372 ∧ T' 374 0 = T 374 0 := by
  have h0 := h
  obtain ⟨h1, h3, hc, hl, h7, hr, hf⟩ := h0
  have hB : ∀ k : Nat, 0 ≤ k := fun _ => Nat.zero_le _
  obtain ⟨n', rfl⟩ : ∃ n', n = n' + 3 := ⟨n - 3, by omega⟩
  have hsz := ssz n' M x hx
  have hxb : inb (nI x) 100 = true := inb_n (by omega) (by decide)
  have hdo := dOn_all x hx
  have hdt := dTe_all x hx
  have hnn := nneg x hx
  have h100 := nneg100 x hx
  rw [if_pos hx10] at hsz
  obtain ⟨T1, cap', g1, gT, g3, g4, g5⟩ := g_ens_l (n := n' + 3) (need := L + 1) h (by omega) (fun q => by omega)
  have e9 := (nneg9 x hx).mpr hx10
  have hkc := gT.2.2.1
  have hcb : cap' < 2147483648 := by have := gT.2.2.2.2.1; omega
  have hin : inb (nI L) cap' = true := inb_n (by omega) (by omega)
  have hm : x % 10 = x := by omega
  rw [hm] at hdo
  have hput := gT.put (x := 48 + x) (by omega) (by omega) (by decide)
  have ep : putN (L, ch) x = (L + 1, fun k => if k = L then 48 + x else ch k) := by unfold putN putC; rw [if_pos hx10]
  rw [ep]
  have hnar := nar_all2 (48 + x) (by omega)
  have hbT : bT T1 373 (nI L) (nI (48 + x)) = up2 T1 373 L (nI (48 + x)) := by unfold bT; rw [ix_n (by omega), hnar]
  have e1 : nI (L + 1) + -nI 1 = nI L := n_m1 (by omega) (by omega)
  refine ⟨up2 T1 373 L (nI (48 + x)), cap', ?_, hput, by rw [u2_k (by decide)]; exact g4, by rw [u2_k (by decide)]; exact g5⟩
  unfold Fg_J4_append_bf812_l Fg_J5_append_c97b9_l F_J5_isLatin1_aae02_l
  rw [lt_s', hsz, ob_s, lt_s', h3, n_add, g1, ogu_s, h1, if_neg (by decide), if_pos (by rfl), ob_s, if_neg (by decide), g_chars1 hx hx10 (by omega) (by have := gT.2.2.2.2.1; omega) (by omega) hkc, og_s, lt_s', ogu_s]
theorem g_num2 {L cap x : Nat} {ch : Nat → Nat} (hn : 13 ≤ n) (h : TB T M 371 373 1 L cap ch) (hL : L < 60) (hx : x < 12) (hx10 : ¬ x < 10) : ∃ T' cap', Fg_J4_append_bf812_l n T (nI x) M = some ((), T', up2 M 371 3 (nI (putN (L, ch) x).1)) ∧ TB T' (up2 M 371 3 (nI (putN (L, ch) x).1)) 371 373 1 (putN (L, ch) x).1 cap' (putN (L, ch) x).2 ∧ T' 372 = T 372 ∧ T' 374 0 = T 374 0 := by
  have h0 := h
  obtain ⟨h1, h3, hc, hl, h7, hr, hf⟩ := h0
  have hB : ∀ k : Nat, 0 ≤ k := fun _ => Nat.zero_le _
  obtain ⟨n', rfl⟩ : ∃ n', n = n' + 3 := ⟨n - 3, by omega⟩
  have hsz := ssz n' M x hx
  have hxb : inb (nI x) 100 = true := inb_n (by omega) (by decide)
  have hdo := dOn_all x hx
  have hdt := dTe_all x hx
  have hnn := nneg x hx
  have h100 := nneg100 x hx
  rw [if_neg hx10] at hsz
  obtain ⟨T1, cap', g1, gT, g3, g4, g5⟩ := g_ens_l (n := n' + 3) (need := L + 2) h (by omega) (fun q => by omega)
  have e9 : ¬ (-nI 9 ≤ -nI x) := fun q => hx10 ((nneg9 x hx).mp q)
  have hkc := gT.2.2.1
  have hcb : cap' < 2147483648 := by have := gT.2.2.2.2.1; omega
  have hin : inb (nI L) cap' = true := inb_n (by omega) (by omega)
  have hin1 : inb (nI (L + 1)) cap' = true := inb_n (by omega) (by omega)
  have hd10 : 48 + x / 10 = 49 := by omega
  rw [hd10] at hdt
  have hput := (gT.put (x := 49) (by omega) (by decide) (by decide)).put (x := 48 + x % 10) (by omega) (by omega) (by decide)
  have ep : putN (L, ch) x = (L + 1 + 1, fun k => if k = L + 1 then 48 + x % 10 else if k = L then 49 else ch k) := by unfold putN putC; rw [if_neg hx10]
  rw [ep]
  have hnar := nar_all2 (48 + x % 10) (by omega)
  have hnar1 := nar_all2 49 (by omega)
  have hbT1 : bT T1 373 (nI (L + 1)) (nI (48 + x % 10)) = up2 T1 373 (L + 1) (nI (48 + x % 10)) := by unfold bT; rw [ix_n (by omega), hnar]
  have hbT2 : bT (up2 T1 373 (L + 1) (nI (48 + x % 10))) 373 (nI L) (nI 49) = up2 (up2 T1 373 (L + 1) (nI (48 + x % 10))) 373 L (nI 49) := by unfold bT; rw [ix_n (by omega), hnar1]
  have hcomm : up2 (up2 T1 373 (L + 1) (nI (48 + x % 10))) 373 L (nI 49) = up2 (up2 T1 373 L (nI 49)) 373 (L + 1) (nI (48 + x % 10)) := by
    funext k jj
    rw [u2_if, u2_if, u2_if, u2_if]
    by_cases a1 : k = 373 <;> by_cases a2 : jj = L <;> by_cases a3 : jj = L + 1 <;> simp [a1, a2, a3]
  have e1 : nI (L + 2) + -nI 1 = nI (L + 1) := n_m1 (by omega) (by omega)
  have e2 : nI (L + 1) + -nI 1 = nI L := n_m1 (by omega) (by omega)
  have hMM : up2 (up2 M 371 3 (nI (L + 1))) 371 3 (nI (L + 1 + 1)) = up2 M 371 3 (nI (L + 1 + 1)) := by
    funext k jj
    rw [u2_if, u2_if, u2_if]
    by_cases a1 : k = 371 <;> by_cases a2 : jj = 3 <;> simp [a1, a2]
  rw [hMM, ← hcomm] at hput
  refine ⟨_, cap', ?_, hput, by rw [u2_k (by decide), u2_k (by decide)]; exact g4, by rw [u2_k (by decide), u2_k (by decide)]; exact g5⟩
  have hkc2 : up2 T1 373 (L + 1) (nI (48 + x % 10)) 374 1 = nI cap' := by rw [u2_k (by decide)]; exact hkc
  unfold Fg_J4_append_bf812_l Fg_J5_append_c97b9_l F_J5_isLatin1_aae02_l
  rw [lt_s', hsz, ob_s, lt_s', h3, n_add, g1, ogu_s, h1, if_neg (by decide), if_pos (by rfl), ob_s, if_neg (by decide), g_chars2 hx hx10 (by omega) (by have := gT.2.2.2.2.1; omega) (by omega) hkc, og_s, lt_s', ogu_s]
theorem g_num {L cap x : Nat} {ch : Nat → Nat} (hn : 13 ≤ n) (h : TB T M 371 373 1 L cap ch) (hL : L < 60) (hx : x < 12) : ∃ T' cap', Fg_J4_append_bf812_l n T (nI x) M = some ((), T', up2 M 371 3 (nI (putN (L, ch) x).1)) ∧ TB T' (up2 M 371 3 (nI (putN (L, ch) x).1)) 371 373 1 (putN (L, ch) x).1 cap' (putN (L, ch) x).2 ∧ T' 372 = T 372 ∧ T' 374 0 = T 374 0 := by
  by_cases hx10 : x < 10
  · exact g_num1 hn h hL hx hx10
  · exact g_num2 hn h hL hx hx10
end NUM
