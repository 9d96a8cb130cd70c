/-! ===== PURE: taking by rank ===== -/
theorem sm_lt {g g' : Nat → Nat} {m : Nat} : ∀ {n : Nat}, m < n → (∀ i, i < n → g i ≤ g' i) → g m < g' m → sm g n < sm g' n
  | 0, h, _, _ => absurd h (Nat.not_lt_zero _)
  | n + 1, h, hle, hm => by
    rw [sm_s, sm_s]
    have h2 := hle n (by omega)
    by_cases e : m = n
    · subst e
      have := sm_mono (n := m) (fun i hi => hle i (by omega))
      omega
    · have := sm_lt (n := n) (by omega) (fun i hi => hle i (by omega)) hm
      omega
section RNK
variable {n c : Nat} {T M Mm : Mem} {V : Nat → Nat}
theorem ahN_lt (W : WF c V) {i a b : Nat} (hi : i < 6) (ha : a < V (59 + 10 * i + 5)) (hb : b < V (59 + 10 * i + 5)) (h : ky V i a < ky V i b) : ahN V i a < ahN V i b := by
  rw [ahN_ky W hi ha, ahN_ky W hi hb]
  refine sm_lt ha (fun x hx => ?_) ?_
  · by_cases e : ky V i x < ky V i a
    · rw [if_pos e, if_pos (by omega)]; exact Nat.le_refl _
    · rw [if_neg e]; exact Nat.zero_le _
  · simp only [h, Nat.lt_irrefl, if_true, if_false]
    decide
/-- r are taken, the least ones -/
def QI (V : Nat → Nat) (i : Nat) (x : Mem) (r : Nat) : Prop := ∃ tk : Nat → Bool, sm (fun k => if tk k = true then 1 else 0) (V (59 + 10 * i + 5)) = r ∧ r ≤ V (59 + 10 * i + 5) ∧ Qu x (V (59 + 10 * i + 5) - r) (fun z => ∃ k, k < V (59 + 10 * i + 5) ∧ z = kq V i k ∧ tk k = false) ∧ ∀ a b, a < V (59 + 10 * i + 5) → b < V (59 + 10 * i + 5) → tk a = true → tk b = false → ky V i a < ky V i b
theorem Qu.congr {x : Mem} {s : Nat} {S S' : Nat → Prop} (h : Qu x s S) (e : ∀ z, S z ↔ S' z) : Qu x s S' := by
  obtain ⟨K, h0, h1, h2, h3, h4, c1, c2, c3⟩ := h
  exact ⟨K, h0, h1, h2, h3, h4, fun i hi => (e _).1 (c1 i hi), fun z hz => c2 z ((e z).2 hz), c3⟩
theorem QI_0 {i : Nat} {x : Mem} (h : Qu x (V (59 + 10 * i + 5)) (fun z => ∃ k, k < V (59 + 10 * i + 5) ∧ z = kq V i k)) : QI V i x 0 :=
  ⟨fun _ => false, sm_0 (fun _ _ => rfl), Nat.zero_le _, h.congr (fun z => ⟨fun ⟨k, h1, h2⟩ => ⟨k, h1, h2, rfl⟩, fun ⟨k, h1, h2, _⟩ => ⟨k, h1, h2⟩⟩), fun a b _ _ h _ => (nomatch h)⟩
theorem C_takeR (W : WF c V) (hn : 14 ≤ n) {i r : Nat} (hi : i < 6) (h : QI V i M r) (hr : r < V (59 + 10 * i + 5)) : ∃ q M', F_X8_takeFirst n 344 M = some (nI (V (119 + 12 * i + q)), M') ∧ q < V (59 + 10 * i + 5) ∧ rkd V i r = q ∧ QI V i M' (r + 1) ∧ ∀ j, j ≠ 344 → j ≠ 345 → M' j = M j := by
  obtain ⟨tk, h1, h2, h3, h4⟩ := h
  obtain ⟨s, hs⟩ : ∃ s, V (59 + 10 * i + 5) - r = s + 1 := ⟨V (59 + 10 * i + 5) - r - 1, by omega⟩
  rw [hs] at h3
  obtain ⟨m, M', t1, ⟨q, hq, rfl, hqt⟩, t3, t4, t5⟩ := C_take (n := n) hn h3
  rw [kq_mod W hi hq] at t1
  have hah : ahN V i q = r := by
    rw [ahN_ky W hi hq, ← h1]
    refine sm_congr (fun x hx => ?_)
    cases hx2 : tk x with
    | true =>
      have := h4 x q hx hq hx2 hqt
      rw [if_pos this, if_pos rfl]
    | false =>
      have := kq_le W hi hq hx (t3 (kq V i x) ⟨x, hx, rfl, hx2⟩)
      rw [if_neg (by omega), if_neg (by decide)]
  refine ⟨q, M', t1, hq, fst_eq hq (decide_eq_true hah) (fun x hx => decide_eq_false (fun e => ?_)), ⟨fun k => if k = q then true else tk k, ?_, by omega, ?_, fun a b ha hb ta tb => ?_⟩, t5⟩
  · rcases Nat.lt_trichotomy (ky V i x) (ky V i q) with z | z | z
    · have := ahN_lt W hi (by omega) hq z; omega
    · have := ky_inj W hi (by omega) hq z; omega
    · have := ahN_lt W hi hq (by omega) z; omega
  · have u := sm_upd (g := fun k => if tk k = true then 1 else 0) (g' := fun k => if (if k = q then true else tk k) = true then 1 else 0) hq (fun x hx => by simp only [hx, if_false])
    simp only [if_true, hqt] at u
    have z : (if (false = true) then 1 else 0 : Nat) = 0 := rfl
    rw [z] at u
    rw [← h1]
    omega
  · rw [show V (59 + 10 * i + 5) - (r + 1) = s by omega]
    refine t4.congr (fun z => ⟨fun ⟨⟨k, k1, k2, k3⟩, k4⟩ => ⟨k, k1, k2, ?_⟩, fun ⟨k, k1, k2, k3⟩ => ?_⟩)
    · have : k ≠ q := fun e => k4 (by rw [k2, e])
      simp only [this, if_false]; exact k3
    · by_cases e : k = q
      · simp only [e, if_true] at k3; cases k3
      · simp only [e, if_false] at k3
        exact ⟨⟨k, k1, k2, k3⟩, fun z2 => e (kq_inj W hi k1 hq (by rw [← k2]; exact z2))⟩
  · by_cases eb : b = q
    · simp only [eb, if_true] at tb; cases tb
    · simp only [eb, if_false] at tb
      by_cases ea : a = q
      · subst ea
        have := kq_le W hi hq hb (t3 (kq V i b) ⟨b, hb, rfl, tb⟩)
        have hne : ky V i a ≠ ky V i b := fun e => eb (ky_inj W hi hq hb e).symm
        omega
      · simp only [ea, if_false] at ta
        exact h4 a b ha hb ta tb
end RNK
