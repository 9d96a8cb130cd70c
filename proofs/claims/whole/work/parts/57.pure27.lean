/-! ===== PURE: the start ===== -/
def V00 : Nat → Nat := fun _ => 0
theorem WF_00 : WF 0 V00 := by
  refine ⟨fun _ => Nat.le_of_ble_eq_true rfl, Nat.le_of_ble_eq_true rfl, Nat.le_of_ble_eq_true rfl, Nat.le_of_ble_eq_true rfl, Nat.le_of_ble_eq_true rfl, Nat.le_of_ble_eq_true rfl, fun f hf => ⟨Nat.le_of_ble_eq_true rfl, Nat.le_of_ble_eq_true rfl, Nat.le_of_ble_eq_true rfl, fun _ => rfl, Nat.le_of_ble_eq_true rfl, fun h => absurd h (Nat.not_lt_zero _)⟩, fun p hp => ⟨Nat.le_of_ble_eq_true rfl, Nat.le_refl _⟩, fun i hi => ⟨Nat.le_of_ble_eq_true rfl, Nat.le_of_ble_eq_true rfl, Nat.le_of_ble_eq_true rfl, Nat.le_of_ble_eq_true rfl, Nat.le_of_ble_eq_true rfl, Nat.le_of_ble_eq_true rfl, Nat.le_of_ble_eq_true rfl, Nat.le_of_ble_eq_true rfl, fun k hk => absurd hk (Nat.not_lt_zero _), fun k k' _ hk => absurd hk (Nat.not_lt_zero _), fun k hk => absurd hk (Nat.not_lt_zero _), fun k k' _ hk => absurd hk (Nat.not_lt_zero _)⟩⟩
theorem M00_0 {k j : Nat} (h : k ≠ 0) : M00 k j = nI 0 := by
  unfold M00
  rw [if_neg h]
  rfl
theorem AR_00 {a : Nat} (ha : a ≠ 0) : AR M00 a V00 := by
  refine ⟨M00_0 ha, M00_0 ha, M00_0 ha, M00_0 ha, M00_0 ha, fun f hf => ⟨M00_0 (by omega), M00_0 (by omega), fun h => absurd h (Nat.not_lt_zero _), M00_0 (by omega)⟩, fun p hp => M00_0 (by omega), ⟨0, by decide, M00_0 ha, fun f hf => by simp [V00]⟩, fun i hi => ⟨M00_0 (by omega), M00_0 (by omega), M00_0 (by omega), M00_0 (by omega), M00_0 (by omega), M00_0 (by omega), M00_0 (by omega), M00_0 (by omega), fun k hk => absurd hk (Nat.not_lt_zero _), fun k hk => absurd hk (Nat.not_lt_zero _), 0, by decide, M00_0 (by omega), fun f hf => ?_⟩⟩
  constructor
  · intro h; simp at h
  · rintro ⟨k, hk, _⟩; exact absurd hk (Nat.not_lt_zero _)
theorem TX_00 : TX T00 M00 MM0 370 372 0 5 14 := ⟨0, 16, by decide, by decide, .inl rfl, M00_0 (by decide), M00_0 (by decide), rfl, rfl, fun k hk => absurd hk (Nat.not_lt_zero _), fun k _ => ⟨0, by decide, rfl⟩⟩
theorem TX_01 : TX T00 M00 MM0 371 373 1 6 17 := ⟨0, 16, by decide, by decide, .inl rfl, M00_0 (by decide), M00_0 (by decide), rfl, rfl, fun k hk => absurd hk (Nat.not_lt_zero _), fun k _ => ⟨0, by decide, rfl⟩⟩
theorem Rel_00 : Rel 0 T00 M00 MM0 :=
  ⟨by decide, ⟨⟨0, V00, by decide, rfl, rfl, fun h => absurd h (by decide)⟩, ⟨rfl, .inl rfl⟩, ⟨rfl, .inl rfl⟩, TX_00, TX_01, rfl, rfl⟩, V00, fun k hk => rfl, WF_00, AR_00 (by decide), 0, fun _ => V00, by decide, rfl, M00_0 (by decide), ⟨0, by decide, M00_0 (by decide), fun i hi => absurd hi (Nat.not_lt_zero _)⟩, fun i hi => absurd hi (Nat.not_lt_zero _)⟩
