/-! ===== what the constructors made, as pools ===== -/
theorem arr_ext {cI : ClassId} {N : Nat} {f f' : Nat → Value} (h : ∀ j, j < N → f j = f' j) : arrV cI N f = arrV cI N f' := by
  have e : (fun j : Fin N => f j.val) = (fun j : Fin N => f' j.val) := funext fun j => h j.val j.isLt
  unfold arrV
  rw [e]
theorem at_refs {D : va_G} {cl : List vw_C} {q n : Nat} {cA : ClassId} {f f' : Nat → Option Nat} {H : Heap} (h : ∀ j, j < n → f j = f' j) (hq : va_at D cl (q, .inl (cA, n, .inr (.inr (.inr (.inr f))))) H) : va_at D cl (q, .inl (cA, n, .inr (.inr (.inr (.inr f'))))) H := by
  have h1 : H[q]? = some (vp_cell cA (n, .inr (.inr (.inr (.inr f))))) := hq
  show H[q]? = some (vp_cell cA (n, .inr (.inr (.inr (.inr f')))))
  rw [h1, vp_cell_q, vp_cell_q, arr_ext (fun j hj => by rw [h j hj])]
theorem upq_at {f : Nat → Nat} {n : Nat} : ∀ {j : Nat}, j < n → upq f n j = some (f j) := by
  induction n with
  | zero => intro j h; exact absurd h (Nat.not_lt_zero j)
  | succ n ih =>
    intro j h
    show va_up (upq f n) n (some (f n)) j = some (f j)
    by_cases e : j = n
    · subst e; simp [va_up]
    · have h2 : j < n := by omega
      simp [va_up, e, ih h2]
def asA (u : tyA) (j : Nat) : Nat := if j < 7 then u.1 j else u.2 ((j - 7) / 4) ((j - 7) % 4)
def bI (a : Nat) (u : tyP) (k : Nat) : Nat := if k = 0 then a else if k < 94 then asA (u.2.1 ((k - 1) / 31)) ((k - 1) % 31) else if k < 96 then u.2.2.1.1 (k - 94) else if k < 344 then asA (u.2.2.1.2 ((k - 96) / 31)) ((k - 96) % 31) else if k < 346 then u.1 (k - 344) else if k < 348 then u.2.2.2.1 (k - 346) else if k < 370 then u.2.2.2.2 ((k - 348) / 2) ((k - 348) % 2) else if k = 370 then u.1 2 else u.1 4
def rI (u : tyP) (k : Nat) : Nat := if k = 370 then u.1 3 else u.1 5
def M00 : Mem := fun k => if k = 0 then (fun j => if j = 9 then -1 else if j = 10 then -1 else 0) else z0
def T00 : Mem := fun k => if k = 374 then (fun _ => 16) else z0
section ASM
variable {g : GG} {r b : Nat → Nat} {k0 : Nat} {H : Heap}
theorem asA_lo {u : tyA} {j : Nat} (h : j < 7) : asA u j = u.1 j := if_pos h
theorem asA_hi {u : tyA} {i t : Nat} (ht : t < 4) : asA u (7 + 4 * i + t) = u.2 i t := by
  unfold asA
  rw [if_neg (by omega), show (7 + 4 * i + t - 7) / 4 = i by omega, show (7 + 4 * i + t - 7) % 4 = t by omega]
theorem kdA_hi {i t : Nat} (ht : t < 4) : kdA (7 + 4 * i + t) = if t = 0 then 5 else 2 := by
  unfold kdA
  rw [if_neg (by omega), if_neg (by omega), if_neg (by omega), if_neg (by omega), show (7 + 4 * i + t - 7) % 4 = t by omega]
theorem blA_mo {u : tyA} {i : Nat} (hi : i < 6) : ∀ q ∈ blMo g (u.2 i), q ∈ blA g u := by
  intro q hq
  have : i = 0 ∨ i = 1 ∨ i = 2 ∨ i = 3 ∨ i = 4 ∨ i = 5 := by omega
  unfold blA
  simp only [List.mem_append]
  rcases this with h | h | h | h | h | h <;> subst h <;> simp [hq]
theorem asm_blk {u : tyA} (hb : ∀ j, j < 31 → b (k0 + j) = asA u j) (hk : ∀ j, j < 31 → kdI (k0 + j) = kdA j) (h : ∀ q ∈ blA g u, va_at g.1 vwCl q H) : ∀ j, j < 31 → va_at g.1 vwCl (b (k0 + j), shI g r b (k0 + j) z0) H := by
  intro j hj
  rcases (by omega : j = 0 ∨ (1 ≤ j ∧ j ≤ 4) ∨ j = 5 ∨ j = 6 ∨ 7 ≤ j) with e | e | e | e | e
  · subst e
    have b1 : b (k0 + 0 + 1) = u.1 1 := hb 1 (by omega)
    have b2 : b (k0 + 0 + 2) = u.1 2 := hb 2 (by omega)
    have b3 : b (k0 + 0 + 3) = u.1 3 := hb 3 (by omega)
    have b4 : b (k0 + 0 + 4) = u.1 4 := hb 4 (by omega)
    have b5 : b (k0 + 0 + 5) = u.1 5 := hb 5 (by omega)
    have b6 : b (k0 + 0 + 6) = u.1 6 := hb 6 (by omega)
    rw [shI_1 (by rw [hk 0 hj]; rfl), show fA b (k0 + 0) z0 = fA u.1 0 z0 by simp only [fA, b1, b2, b3, b4, b5, b6], hb 0 hj]
    exact h _ (by simp [blA, asA])
  · rw [shI_2 (by rw [hk j hj]; unfold kdA; rw [if_neg (by omega), if_pos (by omega)]), hb j hj, asA_lo (by omega)]
    have : j = 1 ∨ j = 2 ∨ j = 3 ∨ j = 4 := by omega
    rcases this with e | e | e | e <;> subst e <;> exact h _ (by simp [blA])
  · subst e
    rw [shI_3 (by rw [hk 5 hj]; rfl), hb 5 hj]
    exact h _ (by simp [blA, asA])
  · subst e
    rw [shI_4 (by rw [hk 6 hj]; rfl), hb 6 hj]
    refine at_refs (f := upq (fun i => u.2 i 0) 6) (fun i hi => ?_) (h _ (by simp [blA, asA]))
    rw [upq_at hi]
    show some (u.2 i 0) = some (b (k0 + 6 + 1 + 4 * i))
    rw [show k0 + 6 + 1 + 4 * i = k0 + (7 + 4 * i + 0) by omega, hb _ (by omega), asA_hi (by omega)]
  · obtain ⟨i, t, hi, ht, rfl⟩ : ∃ i t, i < 6 ∧ t < 4 ∧ j = 7 + 4 * i + t := ⟨(j - 7) / 4, (j - 7) % 4, by omega, by omega, by omega⟩
    have hm := blA_mo (g := g) (u := u) hi
    by_cases h0 : t = 0
    · subst h0
      have b1 : b (k0 + (7 + 4 * i + 0) + 1) = u.2 i 1 := by
        rw [show k0 + (7 + 4 * i + 0) + 1 = k0 + (7 + 4 * i + 1) by omega, hb _ (by omega), asA_hi (by omega)]
      have b2 : b (k0 + (7 + 4 * i + 0) + 2) = u.2 i 2 := by
        rw [show k0 + (7 + 4 * i + 0) + 2 = k0 + (7 + 4 * i + 2) by omega, hb _ (by omega), asA_hi (by omega)]
      have b3 : b (k0 + (7 + 4 * i + 0) + 3) = u.2 i 3 := by
        rw [show k0 + (7 + 4 * i + 0) + 3 = k0 + (7 + 4 * i + 3) by omega, hb _ (by omega), asA_hi (by omega)]
      rw [shI_5 (by rw [hk _ hj, kdA_hi ht]; rfl), show fMo b (k0 + (7 + 4 * i + 0)) z0 = fMo (u.2 i) 0 z0 by simp only [fMo, b1, b2, b3], hb _ hj, asA_hi ht]
      exact h _ (hm _ (by simp [blMo]))
    · rw [shI_2 (by rw [hk _ hj, kdA_hi ht, if_neg h0]), hb _ hj, asA_hi ht]
      have : t = 1 ∨ t = 2 ∨ t = 3 := by omega
      rcases this with e | e | e <;> subst e <;> exact h _ (hm _ (by simp [blMo]))
end ASM
def piI : List Nat := [0, 373, 371, 372, 370, 347, 346, 369, 368, 367, 366, 365, 364, 363, 362, 361, 360, 359, 358, 357, 356, 355, 354, 353, 352, 351, 350, 349, 348, 345, 344, 95, 94, 319, 318, 317, 316, 315, 314, 313, 343, 342, 341, 340, 339, 338, 337, 336, 335, 334, 333, 332, 331, 330, 329, 328, 327, 326, 325, 324, 323, 322, 321, 320, 288, 287, 286, 285, 284, 283, 282, 312, 311, 310, 309, 308, 307, 306, 305, 304, 303, 302, 301, 300, 299, 298, 297, 296, 295, 294, 293, 292, 291, 290, 289, 257, 256, 255, 254, 253, 252, 251, 281, 280, 279, 278, 277, 276, 275, 274, 273, 272, 271, 270, 269, 268, 267, 266, 265, 264, 263, 262, 261, 260, 259, 258, 226, 225, 224, 223, 222, 221, 220, 250, 249, 248, 247, 246, 245, 244, 243, 242, 241, 240, 239, 238, 237, 236, 235, 234, 233, 232, 231, 230, 229, 228, 227, 195, 194, 193, 192, 191, 190, 189, 219, 218, 217, 216, 215, 214, 213, 212, 211, 210, 209, 208, 207, 206, 205, 204, 203, 202, 201, 200, 199, 198, 197, 196, 164, 163, 162, 161, 160, 159, 158, 188, 187, 186, 185, 184, 183, 182, 181, 180, 179, 178, 177, 176, 175, 174, 173, 172, 171, 170, 169, 168, 167, 166, 165, 133, 132, 131, 130, 129, 128, 127, 157, 156, 155, 154, 153, 152, 151, 150, 149, 148, 147, 146, 145, 144, 143, 142, 141, 140, 139, 138, 137, 136, 135, 134, 102, 101, 100, 99, 98, 97, 96, 126, 125, 124, 123, 122, 121, 120, 119, 118, 117, 116, 115, 114, 113, 112, 111, 110, 109, 108, 107, 106, 105, 104, 103, 69, 68, 67, 66, 65, 64, 63, 93, 92, 91, 90, 89, 88, 87, 86, 85, 84, 83, 82, 81, 80, 79, 78, 77, 76, 75, 74, 73, 72, 71, 70, 38, 37, 36, 35, 34, 33, 32, 62, 61, 60, 59, 58, 57, 56, 55, 54, 53, 52, 51, 50, 49, 48, 47, 46, 45, 44, 43, 42, 41, 40, 39, 7, 6, 5, 4, 3, 2, 1, 31, 30, 29, 28, 27, 26, 25, 24, 23, 22, 21, 20, 19, 18, 17, 16, 15, 14, 13, 12, 11, 10, 9, 8]
theorem piI_perm : List.Perm piI (List.range 374) := by decide +kernel
theorem nd_perm {l l' : List Nat} {f : Nat → Nat} {Z : List Nat} (hp : List.Perm l l') (h : (l.map f ++ Z).Nodup) : (l'.map f ++ Z).Nodup := ((hp.map f).append_right Z).nodup_iff.mp h
def bX (a : Nat) (u : tyP) (k : Nat) : Nat := if k = 372 then u.1 3 else if k = 373 then u.1 5 else bI a u k
set_option maxRecDepth 100000 in
set_option maxHeartbeats 8000000 in
theorem blP_ad {g : GG} {a : Nat} {u : tyP} : (blP g a u).map (fun q => q.1) = piI.map (bX a u) := by rfl
theorem bX_lo {a : Nat} {u : tyP} {k : Nat} (h : k < 372) : bX a u k = bI a u k := by
  unfold bX
  rw [if_neg (by omega), if_neg (by omega)]
theorem pool_nd {g : GG} {a : Nat} {u : tyP} {X : va_W} {T M : Mem} (h : ((blP g a u ++ X).map (fun q => q.1)).Nodup) : ((xb g (rI u) T ++ X ++ pw 372 (shI g (rI u) (bI a u)) (bI a u) M).map (fun q => q.1)).Nodup := by
  have e1 : (pw 372 (shI g (rI u) (bI a u)) (bI a u) M).map (fun q => q.1) = (List.range 372).map (bX a u) := by
    unfold pw
    rw [List.map_map]
    exact List.map_congr_left fun k hk => (bX_lo (List.mem_range.mp hk)).symm
  have e2 : (List.range 374).map (bX a u) = (List.range 372).map (bX a u) ++ [u.1 3, u.1 5] := by
    rw [show (374 : Nat) = 372 + 1 + 1 from rfl, List.range_succ, List.range_succ, List.map_append, List.map_append, List.append_assoc]
    rfl
  rw [List.map_append, blP_ad] at h
  have h2 := nd_perm piI_perm h
  rw [e2] at h2
  rw [List.map_append, List.map_append, e1]
  have e3 : (xb g (rI u) T).map (fun q => q.1) = [u.1 3, u.1 5] := rfl
  rw [e3]
  refine (List.Perm.nodup_iff ?_).mp h2
  rw [List.append_assoc ((List.range 372).map (bX a u))]
  exact List.perm_append_comm
theorem bI_as {a : Nat} {u : tyP} {i j : Nat} (hi : i < 3) (hj : j < 31) : bI a u (1 + 31 * i + j) = asA (u.2.1 i) j := by
  unfold bI
  rw [if_neg (by omega), if_pos (by omega), show (1 + 31 * i + j - 1) / 31 = i by omega, show (1 + 31 * i + j - 1) % 31 = j by omega]
theorem bI_hi {a : Nat} {u : tyP} {i j : Nat} (hi : i < 8) (hj : j < 31) : bI a u (96 + 31 * i + j) = asA (u.2.2.1.2 i) j := by
  unfold bI
  rw [if_neg (by omega), if_neg (by omega), if_neg (by omega), if_pos (by omega), show (96 + 31 * i + j - 96) / 31 = i by omega, show (96 + 31 * i + j - 96) % 31 = j by omega]
theorem kdI_as {i j : Nat} (hi : i < 3) (hj : j < 31) : kdI (1 + 31 * i + j) = kdA j := by
  unfold kdI
  rw [if_neg (by omega), if_pos (by omega), show (1 + 31 * i + j - 1) % 31 = j by omega]
theorem kdI_hi {i j : Nat} (hi : i < 8) (hj : j < 31) : kdI (96 + 31 * i + j) = kdA j := by
  unfold kdI
  rw [if_neg (by omega), if_neg (by omega), if_neg (by omega), if_neg (by omega), if_pos (by omega), show (96 + 31 * i + j - 96) % 31 = j by omega]
theorem bI_c {a : Nat} {u : tyP} {i t : Nat} (hi : i < 11) (ht : t < 2) : bI a u (348 + 2 * i + t) = u.2.2.2.2 i t := by
  unfold bI
  rw [if_neg (by omega), if_neg (by omega), if_neg (by omega), if_neg (by omega), if_neg (by omega), if_neg (by omega), if_pos (by omega), show (348 + 2 * i + t - 348) / 2 = i by omega, show (348 + 2 * i + t - 348) % 2 = t by omega]
theorem kdI_c {i t : Nat} (hi : i < 11) (ht : t < 2) : kdI (348 + 2 * i + t) = if t = 0 then 11 else 12 := by
  unfold kdI
  rw [if_neg (by omega), if_neg (by omega), if_neg (by omega), if_neg (by omega), if_neg (by omega), if_neg (by omega), if_neg (by omega), if_neg (by omega), if_neg (by omega), if_pos (by omega)]
  rcases (by omega : t = 0 ∨ t = 1) with e | e <;> subst e
  · rw [if_pos (by omega), if_pos rfl]
  · rw [if_neg (by omega), if_neg (by decide)]
theorem blH_a {g : GG} {u : tyH} {i : Nat} (hi : i < 8) : ∀ q ∈ blA g (u.2 i), q ∈ blH g u := by
  intro q hq
  have : i = 0 ∨ i = 1 ∨ i = 2 ∨ i = 3 ∨ i = 4 ∨ i = 5 ∨ i = 6 ∨ i = 7 := by omega
  unfold blH
  simp only [List.mem_append]
  rcases this with h | h | h | h | h | h | h | h <;> subst h <;> simp [hq]
theorem blR_c {g : GG} {u : tyA} {i : Nat} (hi : i < 11) : ∀ q ∈ blC g (u.2 i), q ∈ blR g u := by
  intro q hq
  have : i = 0 ∨ i = 1 ∨ i = 2 ∨ i = 3 ∨ i = 4 ∨ i = 5 ∨ i = 6 ∨ i = 7 ∨ i = 8 ∨ i = 9 ∨ i = 10 := by omega
  unfold blR
  simp only [List.mem_append]
  rcases this with h | h | h | h | h | h | h | h | h | h | h <;> subst h <;> simp [hq]
theorem blP_in {g : GG} {a : Nat} {u : tyP} {q : Nat × va_E} (h : q ∈ blS g (fun j => u.1 (4 + j)) ∨ q ∈ blS g (fun j => u.1 (2 + j)) ∨ q ∈ blR g u.2.2.2 ∨ q ∈ blQ g u.1 ∨ q ∈ blH g u.2.2.1 ∨ q ∈ blA g (u.2.1 2) ∨ q ∈ blA g (u.2.1 1) ∨ q ∈ blA g (u.2.1 0)) : q ∈ blP g a u := by
  unfold blP
  simp only [List.mem_append]
  exact Or.inr h
set_option maxHeartbeats 4000000 in
theorem pool_at {g : GG} {a : Nat} {u : tyP} {H : Heap} (h : ∀ q ∈ blP g a u, va_at g.1 vwCl q H) : ∀ k, k < 372 → va_at g.1 vwCl (bI a u k, shI g (rI u) (bI a u) k (M00 k)) H := by
  intro k hk
  by_cases k0 : k = 0
  · subst k0
    rw [shI_0 rfl]
    exact h _ (by unfold blP; exact List.mem_append_left _ (List.mem_singleton.mpr rfl))
  have eM : M00 k = z0 := if_neg k0
  rw [eM]
  rcases (by omega : k < 94 ∨ k = 94 ∨ k = 95 ∨ (96 ≤ k ∧ k < 344) ∨ k = 344 ∨ k = 345 ∨ k = 346 ∨ k = 347 ∨ (348 ≤ k ∧ k < 370) ∨ k = 370 ∨ k = 371) with e | e | e | e | e | e | e | e | e | e | e
  · obtain ⟨i, j, hi, hj, rfl⟩ : ∃ i j, i < 3 ∧ j < 31 ∧ k = 1 + 31 * i + j := ⟨(k - 1) / 31, (k - 1) % 31, by omega, by omega, by omega⟩
    refine asm_blk (k0 := 1 + 31 * i) (u := u.2.1 i) (fun j hj => bI_as hi hj) (fun j hj => kdI_as hi hj) (fun q hq => h q (blP_in ?_)) j hj
    rcases (by omega : i = 0 ∨ i = 1 ∨ i = 2) with e | e | e <;> subst e
    · exact Or.inr (Or.inr (Or.inr (Or.inr (Or.inr (Or.inr (Or.inr hq))))))
    · exact Or.inr (Or.inr (Or.inr (Or.inr (Or.inr (Or.inr (Or.inl hq))))))
    · exact Or.inr (Or.inr (Or.inr (Or.inr (Or.inr (Or.inl hq)))))
  · subst e
    rw [shI_6 rfl]
    exact h _ (blP_in (Or.inr (Or.inr (Or.inr (Or.inr (Or.inl (by unfold blH; exact List.mem_append_left _ (List.mem_cons_of_mem _ (List.mem_singleton.mpr rfl)))))))))
  · subst e
    rw [shI_7 rfl]
    refine at_refs (f := upq (fun i => (u.2.2.1.2 i).1 0) 8) (fun i hi => ?_) (h _ (blP_in (Or.inr (Or.inr (Or.inr (Or.inr (Or.inl (by unfold blH; exact List.mem_append_left _ List.mem_cons_self))))))))
    rw [upq_at hi]
    show some ((u.2.2.1.2 i).1 0) = some (bI a u (95 + 1 + 31 * i))
    rw [show 95 + 1 + 31 * i = 96 + 31 * i + 0 by omega, bI_hi hi (by omega)]
    rfl
  · obtain ⟨i, j, hi, hj, rfl⟩ : ∃ i j, i < 8 ∧ j < 31 ∧ k = 96 + 31 * i + j := ⟨(k - 96) / 31, (k - 96) % 31, by omega, by omega, by omega⟩
    exact asm_blk (k0 := 96 + 31 * i) (u := u.2.2.1.2 i) (fun j hj => bI_hi hi hj) (fun j hj => kdI_hi hi hj) (fun q hq => h q (blP_in (Or.inr (Or.inr (Or.inr (Or.inr (Or.inl (blH_a hi q hq)))))))) j hj
  · subst e
    rw [shI_8 rfl]
    exact h _ (blP_in (Or.inr (Or.inr (Or.inr (Or.inl (by unfold blQ; exact List.mem_cons_of_mem _ (List.mem_singleton.mpr rfl)))))))
  · subst e
    rw [shI_2 rfl]
    exact h _ (blP_in (Or.inr (Or.inr (Or.inr (Or.inl (by unfold blQ; exact List.mem_cons_self))))))
  · subst e
    rw [shI_9 rfl]
    exact h _ (blP_in (Or.inr (Or.inr (Or.inl (by unfold blR; exact List.mem_append_left _ (List.mem_cons_of_mem _ (List.mem_singleton.mpr rfl)))))))
  · subst e
    rw [shI_10 rfl]
    refine at_refs (f := upq (fun i => u.2.2.2.2 i 0) 11) (fun i hi => ?_) (h _ (blP_in (Or.inr (Or.inr (Or.inl (by unfold blR; exact List.mem_append_left _ List.mem_cons_self))))))
    rw [upq_at hi]
    show some (u.2.2.2.2 i 0) = some (bI a u (347 + 1 + 2 * i))
    rw [show 347 + 1 + 2 * i = 348 + 2 * i + 0 by omega, bI_c hi (by omega)]
  · obtain ⟨i, t, hi, ht, rfl⟩ : ∃ i t, i < 11 ∧ t < 2 ∧ k = 348 + 2 * i + t := ⟨(k - 348) / 2, (k - 348) % 2, by omega, by omega, by omega⟩
    have hm := fun q hq => h q (blP_in (Or.inr (Or.inr (Or.inl (blR_c (g := g) (u := u.2.2.2) hi q hq)))))
    rcases (by omega : t = 0 ∨ t = 1) with e9 | e9 <;> subst e9
    · rw [shI_11 (kdI_c hi ht), show fC g (bI a u) (348 + 2 * i + 0) z0 = fC g (u.2.2.2.2 i) 0 z0 by simp only [fC, show 348 + 2 * i + 0 + 1 = 348 + 2 * i + 1 from rfl, bI_c (a := a) (u := u) hi (show 1 < 2 by decide)], bI_c hi ht]
      exact hm _ (by unfold blC; exact List.mem_cons_of_mem _ (List.mem_singleton.mpr rfl))
    · rw [shI_12 (kdI_c hi ht), bI_c hi ht]
      exact hm _ (by unfold blC; exact List.mem_cons_self)
  · subst e
    rw [shI_13 rfl]
    exact h _ (blP_in (Or.inr (Or.inl (by unfold blS; exact List.mem_cons_of_mem _ (List.mem_singleton.mpr rfl)))))
  · subst e
    rw [shI_13 rfl]
    exact h _ (blP_in (Or.inl (by unfold blS; exact List.mem_cons_of_mem _ (List.mem_singleton.mpr rfl))))
theorem poolI {g : GG} {A : Nat → Prop} {s : State} {a : Nat} {u : tyP} {X : va_W} {H : Heap} {locs : List Loc} (h : KI g A s (blP g a u ++ X) H locs) : KI g A s (xb g (rI u) T00 ++ X ++ pw 372 (shI g (rI u) (bI a u)) (bI a u) M00) H locs := by
  obtain ⟨hP, hD, hS⟩ := h
  have hb := fun q hq => vP_iff.mp hP q (List.mem_append_left X hq)
  obtain ⟨d1, d2⟩ := vD_iff.mp hD
  have key : ∀ q ∈ xb g (rI u) T00, q ∈ blP g a u := by
    intro q hq
    have h9 : xb g (rI u) T00 = [(u.1 3, .inl (g.2.1 4, 16, .inl z0)), (u.1 5, .inl (g.2.1 4, 16, .inl z0))] := rfl
    rw [h9] at hq
    rcases List.mem_cons.mp hq with e | e
    · subst e; exact blP_in (Or.inr (Or.inl (by unfold blS; exact List.mem_cons_self)))
    · rw [List.mem_singleton.mp e]; exact blP_in (Or.inl (by unfold blS; exact List.mem_cons_self))
  refine ⟨vP_iff.mpr fun q hq => ?_, vD_iff.mpr ⟨pool_nd d1, fun q hq => ?_⟩, hS⟩
  · rcases List.mem_append.mp hq with h | h
    · rcases List.mem_append.mp h with h | h
      · exact hb q (key q h)
      · exact vP_iff.mp hP q (List.mem_append_right _ h)
    · obtain ⟨k, hk, rfl⟩ := pw_mem.mp h
      exact pool_at hb k hk
  · rcases List.mem_append.mp hq with h | h
    · rcases List.mem_append.mp h with h | h
      · exact d2 q (List.mem_append_left _ (key q h))
      · exact d2 q (List.mem_append_right _ h)
    · obtain ⟨k, hk, rfl⟩ := pw_mem.mp h
      have h8 : bX a u k ∈ piI.map (bX a u) := List.mem_map.mpr ⟨k, piI_perm.mem_iff.mpr (List.mem_range.mpr (by omega)), rfl⟩
      rw [← blP_ad (g := g)] at h8
      obtain ⟨q9, h7, e7⟩ := List.mem_map.mp h8
      have h6 := d2 q9 (List.mem_append_left _ h7)
      rw [show q9.1 = bI a u k from e7.trans (bX_lo hk)] at h6
      exact h6
