/-! ===== the reference: its object and nine rows of ints, from b ===== -/
def fM (b : Nat → Nat) (v : Nat → Int32) : List Value := [.int (v 0), .int (v 1), .int (v 2), .int (v 3), .int (v 4), .ref (b 1), .ref (b 2), .ref (b 3), .ref (b 4), .ref (b 5), .ref (b 6), .ref (b 7), .ref (b 8), .ref (b 9), .int (v 14), .int (v 15), .int (v 16), .int (v 17), .int (v 18), .int (v 19)]
def lenM (k : Nat) : Nat := if k ≤ 3 then 407 else if k = 4 then 3256 else if k ≤ 6 then 60 else if k = 7 then 11 else if k = 8 then 59 else 12
def shM (g : GG) (b : Nat → Nat) : Shp := fun k v => if k = 0 then .inr (11, fM b v) else .inl (g.2.1 0, lenM k, .inl v)
/-! ===== the class: 370 cells from b: its object, three assemblies, the history with eight, the queue, the reader ===== -/
def kdA (r : Nat) : Nat := if r = 0 then 1 else if r ≤ 4 then 2 else if r = 5 then 3 else if r = 6 then 4 else if (r - 7) % 4 = 0 then 5 else 2
def kdI (k : Nat) : Nat := if k = 0 then 0 else if k < 94 then kdA ((k - 1) % 31) else if k = 94 then 6 else if k = 95 then 7 else if k < 344 then kdA ((k - 96) % 31) else if k = 344 then 8 else if k = 345 then 2 else if k = 346 then 9 else if k = 347 then 10 else if k < 370 then (if k % 2 = 0 then 11 else 12) else if k < 372 then 13 else 99
def fP (b : Nat → Nat) (v : Nat → Int32) : List Value := [.ref (b 1), .ref (b 32), .ref (b 63), .int (v 3), .ref (b 94), .ref (b 344), .ref (b 346), .ref (b 370), .ref (b 371), .int (v 9), .int (v 10)]
def fA (b : Nat → Nat) (k : Nat) (v : Nat → Int32) : List Value := [.int (v 0), .ref (b (k + 1)), .ref (b (k + 2)), .ref (b (k + 3)), .ref (b (k + 4)), .int (v 5), .int (v 6), .ref (b (k + 5)), .int (v 8), .ref (b (k + 6)), .int (v 10), .int (v 11)]
def fMo (b : Nat → Nat) (k : Nat) (v : Nat → Int32) : List Value := [.int (v 0), .ref (b (k + 1)), .int (v 2), .int (v 3), .int (v 4), .ref (b (k + 2)), .ref (b (k + 3)), .int (v 7), .int (v 8), .int (v 9), .int (v 10), .int (v 11)]
def fH (b : Nat → Nat) (k : Nat) (v : Nat → Int32) : List Value := [.ref (b (k + 1)), .int (v 1), .int (v 2)]
def fQ (b : Nat → Nat) (k : Nat) (v : Nat → Int32) : List Value := [.ref (b (k + 1)), .int (v 1)]
def fR (b : Nat → Nat) (k : Nat) (v : Nat → Int32) : List Value := [.ref (b (k + 1)), .int (v 1), .int (v 2)]
def fC (g : GG) (b : Nat → Nat) (k : Nat) (v : Nat → Int32) : List Value := [.ref (g.2.2 1 (ix (v 0))), .ref (b (k + 1)), .int (v 2)]
def fS (r : Nat → Nat) (k : Nat) (v : Nat → Int32) : List Value := [.ref (r k), .int (v 1), .int (v 2), .int (v 3)]
def rfs (cA : ClassId) (n : Nat) (f : Nat → Nat) : va_E := .inl (cA, n, .inr (.inr (.inr (.inr (fun i => some (f i))))))
def shI (g : GG) (r b : Nat → Nat) : Shp := fun k v =>
  if kdI k = 0 then .inr (10, fP b v) else if kdI k = 1 then .inr (4, fA b k v) else if kdI k = 2 then .inl (g.2.1 0, 12, .inl v) else if kdI k = 3 then .inl (g.2.1 0, 6, .inl v)
  else if kdI k = 4 then rfs (g.2.1 1) 6 (fun i => b (k + 1 + 4 * i)) else if kdI k = 5 then .inr (8, fMo b k v) else if kdI k = 6 then .inr (7, fH b k v) else if kdI k = 7 then rfs (g.2.1 2) 8 (fun i => b (k + 1 + 31 * i))
  else if kdI k = 8 then .inr (9, fQ b k v) else if kdI k = 9 then .inr (6, fR b k v) else if kdI k = 10 then rfs (g.2.1 3) 11 (fun i => b (k + 1 + 2 * i)) else if kdI k = 11 then .inr (5, fC g b k v) else if kdI k = 12 then .inl (g.2.1 0, 4, .inl v) else .inr (1, fS r k v)
section SHI
variable {g : GG} {r b : Nat → Nat} {k : Nat}
theorem shI_0 (h : kdI k = 0) : ∀ v, shI g r b k v = .inr (10, fP b v) := fun v => by simp [shI, h]
theorem shI_1 (h : kdI k = 1) : ∀ v, shI g r b k v = .inr (4, fA b k v) := fun v => by simp [shI, h]
theorem shI_2 (h : kdI k = 2) : ∀ v, shI g r b k v = .inl (g.2.1 0, 12, .inl v) := fun v => by simp [shI, h]
theorem shI_3 (h : kdI k = 3) : ∀ v, shI g r b k v = .inl (g.2.1 0, 6, .inl v) := fun v => by simp [shI, h]
theorem shI_4 (h : kdI k = 4) : ∀ v, shI g r b k v = rfs (g.2.1 1) 6 (fun i => b (k + 1 + 4 * i)) := fun v => by simp [shI, h]
theorem shI_5 (h : kdI k = 5) : ∀ v, shI g r b k v = .inr (8, fMo b k v) := fun v => by simp [shI, h]
theorem shI_6 (h : kdI k = 6) : ∀ v, shI g r b k v = .inr (7, fH b k v) := fun v => by simp [shI, h]
theorem shI_7 (h : kdI k = 7) : ∀ v, shI g r b k v = rfs (g.2.1 2) 8 (fun i => b (k + 1 + 31 * i)) := fun v => by simp [shI, h]
theorem shI_8 (h : kdI k = 8) : ∀ v, shI g r b k v = .inr (9, fQ b k v) := fun v => by simp [shI, h]
theorem shI_9 (h : kdI k = 9) : ∀ v, shI g r b k v = .inr (6, fR b k v) := fun v => by simp [shI, h]
theorem shI_10 (h : kdI k = 10) : ∀ v, shI g r b k v = rfs (g.2.1 3) 11 (fun i => b (k + 1 + 2 * i)) := fun v => by simp [shI, h]
theorem shI_11 (h : kdI k = 11) : ∀ v, shI g r b k v = .inr (5, fC g b k v) := fun v => by simp [shI, h]
theorem shI_12 (h : kdI k = 12) : ∀ v, shI g r b k v = .inl (g.2.1 0, 4, .inl v) := fun v => by simp [shI, h]
theorem shI_13 (h : kdI k = 13) : ∀ v, shI g r b k v = .inr (1, fS r k v) := fun v => by simp [shI, h]
theorem kd_lt {n : Nat} (h : kdI k = n) (hn : n < 99) : k < 372 := by
  rcases Nat.lt_or_ge k 372 with q | q
  · exact q
  · exfalso
    have e : kdI k = 99 := by simp only [kdI]; rw [if_neg (by omega), if_neg (by omega), if_neg (by omega), if_neg (by omega), if_neg (by omega), if_neg (by omega), if_neg (by omega), if_neg (by omega), if_neg (by omega), if_neg (by omega), if_neg (by omega)]
    omega
theorem kd1_all : ∀ k, k < 372 → kdI k = 1 → kdI (k + 1) = 2 ∧ kdI (k + 2) = 2 ∧ kdI (k + 3) = 2 ∧ kdI (k + 4) = 2 ∧ kdI (k + 5) = 3 ∧ kdI (k + 6) = 4 := by decide +kernel
theorem kd4_all : ∀ k, k < 372 → kdI k = 4 → ∀ i, i < 6 → kdI (k + 1 + 4 * i) = 5 := by decide +kernel
theorem kd5_all : ∀ k, k < 372 → kdI k = 5 → kdI (k + 1) = 2 ∧ kdI (k + 2) = 2 ∧ kdI (k + 3) = 2 := by decide +kernel
theorem kd6_all : ∀ k, k < 372 → kdI k = 6 → kdI (k + 1) = 7 := by decide +kernel
theorem kd7_all : ∀ k, k < 372 → kdI k = 7 → ∀ i, i < 8 → kdI (k + 1 + 31 * i) = 1 := by decide +kernel
theorem kd8_all : ∀ k, k < 372 → kdI k = 8 → kdI (k + 1) = 2 := by decide +kernel
theorem kd9_all : ∀ k, k < 372 → kdI k = 9 → kdI (k + 1) = 10 := by decide +kernel
theorem kd10_all : ∀ k, k < 372 → kdI k = 10 → ∀ i, i < 11 → kdI (k + 1 + 2 * i) = 11 := by decide +kernel
theorem kd11_all : ∀ k, k < 372 → kdI k = 11 → kdI (k + 1) = 12 := by decide +kernel
theorem kdlt0 (h : kdI k = 0) : k < 372 := kd_lt h (by decide)
theorem kdlt1 (h : kdI k = 1) : k < 372 := kd_lt h (by decide)
theorem kdlt2 (h : kdI k = 2) : k < 372 := kd_lt h (by decide)
theorem kdlt3 (h : kdI k = 3) : k < 372 := kd_lt h (by decide)
theorem kdlt4 (h : kdI k = 4) : k < 372 := kd_lt h (by decide)
theorem kdlt5 (h : kdI k = 5) : k < 372 := kd_lt h (by decide)
theorem kdlt6 (h : kdI k = 6) : k < 372 := kd_lt h (by decide)
theorem kdlt7 (h : kdI k = 7) : k < 372 := kd_lt h (by decide)
theorem kdlt8 (h : kdI k = 8) : k < 372 := kd_lt h (by decide)
theorem kdlt9 (h : kdI k = 9) : k < 372 := kd_lt h (by decide)
theorem kdlt10 (h : kdI k = 10) : k < 372 := kd_lt h (by decide)
theorem kdlt11 (h : kdI k = 11) : k < 372 := kd_lt h (by decide)
theorem kdlt12 (h : kdI k = 12) : k < 372 := kd_lt h (by decide)
theorem kdlt13 (h : kdI k = 13) : k < 372 := kd_lt h (by decide)
theorem kd1_1 (h : kdI k = 1) : kdI (k + 1) = 2 := (kd1_all k (kdlt1 h) h).1
theorem kd1_2 (h : kdI k = 1) : kdI (k + 2) = 2 := (kd1_all k (kdlt1 h) h).2.1
theorem kd1_3 (h : kdI k = 1) : kdI (k + 3) = 2 := (kd1_all k (kdlt1 h) h).2.2.1
theorem kd1_4 (h : kdI k = 1) : kdI (k + 4) = 2 := (kd1_all k (kdlt1 h) h).2.2.2.1
theorem kd1_5 (h : kdI k = 1) : kdI (k + 5) = 3 := (kd1_all k (kdlt1 h) h).2.2.2.2.1
theorem kd1_6 (h : kdI k = 1) : kdI (k + 6) = 4 := (kd1_all k (kdlt1 h) h).2.2.2.2.2
theorem kd5_1 (h : kdI k = 5) : kdI (k + 1) = 2 := (kd5_all k (kdlt5 h) h).1
theorem kd5_2 (h : kdI k = 5) : kdI (k + 2) = 2 := (kd5_all k (kdlt5 h) h).2.1
theorem kd5_3 (h : kdI k = 5) : kdI (k + 3) = 2 := (kd5_all k (kdlt5 h) h).2.2
theorem kd6_1 (h : kdI k = 6) : kdI (k + 1) = 7 := kd6_all k (kdlt6 h) h
theorem kd8_1 (h : kdI k = 8) : kdI (k + 1) = 2 := kd8_all k (kdlt8 h) h
theorem kd9_1 (h : kdI k = 9) : kdI (k + 1) = 10 := kd9_all k (kdlt9 h) h
theorem kd11_1 (h : kdI k = 11) : kdI (k + 1) = 12 := kd11_all k (kdlt11 h) h
theorem kd4_i (h : kdI k = 4) {i : Int32} (hi : inb i 6 = true) : kdI (k + 1 + 4 * ix i) = 5 := kd4_all k (kdlt4 h) h _ (ix_lt (inb_in hi))
theorem kd7_i (h : kdI k = 7) {i : Int32} (hi : inb i 8 = true) : kdI (k + 1 + 31 * ix i) = 1 := kd7_all k (kdlt7 h) h _ (ix_lt (inb_in hi))
theorem kd10_i (h : kdI k = 10) {i : Int32} (hi : inb i 11 = true) : kdI (k + 1 + 2 * ix i) = 11 := kd10_all k (kdlt10 h) h _ (ix_lt (inb_in hi))
end SHI
