/-! ===== PURE: the relation of both, kept by the steps ===== -/
def TX (T M Mm : Mem) (ob bt cp row len : Nat) : Prop := ∃ L cap, L ≤ 60 ∧ L ≤ cap ∧ (cap = 16 ∨ cap = 34 ∨ cap = 70) ∧ M ob 1 = nI 0 ∧ M ob 3 = nI L ∧ Mm 0 len = nI L ∧ T 374 cp = nI cap ∧ (∀ k, k < L → ∃ ch, 32 ≤ ch ∧ ch ≤ 126 ∧ T bt k = nI ch ∧ Mm row k = nI ch) ∧ ∀ k, k < cap → ∃ ch, ch ≤ 126 ∧ T bt k = nI ch
def ER (x y : Int32) : Prop := x = y ∧ (x = -nI 1 ∨ ∃ p, p < 65536 ∧ x = nI p)
/-- what the steps leave alone -/
def RO (c : Nat) (T M Mm : Mem) : Prop :=
  (∃ sv Vs, sv ≤ 1 ∧ Mm 0 4 = nI sv ∧ M 0 3 = nI sv ∧ (sv = 1 → WF c Vs ∧ AR M 63 Vs ∧ ∀ k, k < 407 → Mm 3 k = nI (Vs k))) ∧
  ER (M 0 9) (Mm 0 2) ∧ ER (M 0 10) (Mm 0 3) ∧ TX T M Mm 370 372 0 5 14 ∧ TX T M Mm 371 373 1 6 17 ∧ Mm 8 = ups wdL 59 ∧ Mm 9 = ups waL 12
def RCo (c : Nat) (V : Nat → Nat) (M Mm : Mem) : Prop := RR Mm V ∧ WF c V ∧ AR M 1 V ∧ ∃ cnt past, HR c M Mm cnt past
def Rel (j : Nat) (T M Mm : Mem) : Prop := j ≤ 512 ∧ RO (64 * j) T M Mm ∧ ∃ V, RCo (64 * j) V M Mm
section REL
variable {n c c' : Nat} {T M M' Mm Mm' : Mem} {V : Nat → Nat}
theorem TX.fr {ob bt cp row len : Nat} (h : TX T M Mm ob bt cp row len) (e1 : M' ob = M ob) (e2 : Mm' 0 len = Mm 0 len) (e3 : Mm' row = Mm row) : TX T M' Mm' ob bt cp row len := by
  unfold TX
  rw [e1, e2, e3]
  exact h
theorem RO.fr (h : RO c T M Mm) (hc : c ≤ c') (e0 : M' 0 = M 0) (es : ∀ k, 63 ≤ k → k < 94 → M' k = M k) (et : M' 370 = M 370) (el : M' 371 = M 371) (f0 : ∀ j, 1 < j → j < 15 ∨ j = 17 → Mm' 0 j = Mm 0 j) (f3 : Mm' 3 = Mm 3) (f5 : Mm' 5 = Mm 5) (f6 : Mm' 6 = Mm 6) (f8 : Mm' 8 = Mm 8) (f9 : Mm' 9 = Mm 9) : RO c' T M' Mm' := by
  obtain ⟨⟨sv, Vs, s1, s2, s3, s4⟩, h1, h2, h3, h4, h5, h6⟩ := h
  refine ⟨⟨sv, Vs, s1, by rw [f0 4 (by decide) (by decide)]; exact s2, by rw [e0]; exact s3, fun hs => ⟨(s4 hs).1.mono hc, (s4 hs).2.1.cong (s4 hs).1 es, by rw [f3]; exact (s4 hs).2.2⟩⟩, ?_, ?_, h3.fr et (f0 14 (by decide) (by decide)) f5, h4.fr el (f0 17 (by decide) (by decide)) f6, f8.trans h5, f9.trans h6⟩
  · rw [e0, f0 2 (by decide) (by decide)]; exact h1
  · rw [e0, f0 3 (by decide) (by decide)]; exact h2
theorem HR.fr {cnt : Nat} {past : Nat → Nat → Nat} (h : HR c M Mm cnt past) (hc : c ≤ c') (e : ∀ k, 94 ≤ k → k < 344 → M' k = M k) (f0 : Mm' 0 1 = Mm 0 1) (f4 : Mm' 4 = Mm 4) : HR c' M' Mm' cnt past := by
  obtain ⟨h1, h2, h3, ⟨nx, x1, x2, x3⟩, h5⟩ := h
  refine ⟨h1, by rw [f0]; exact h2, by rw [e 94 (by decide) (by decide)]; exact h3, ⟨nx, x1, by rw [e 94 (by decide) (by decide)]; exact x2, fun i hi => (x3 i hi).cong (h5 i hi).1 (fun k h1 h2 => e k (by omega) (by omega))⟩, fun i hi => ⟨(h5 i hi).1.mono hc, by rw [f4]; exact (h5 i hi).2⟩⟩
theorem pushP_WF {cnt : Nat} {past : Nat → Nat → Nat} (W : WF c V) (hP : ∀ i, i < cnt → WF c (past i)) (i : Nat) (hi : i < (if cnt = 8 then 8 else cnt + 1)) : WF c (pushP cnt past V i) := by
  unfold pushP
  by_cases h8 : cnt = 8
  · rw [if_pos h8] at hi
    rw [if_pos h8]
    by_cases e : i = 7
    · rw [if_pos e]; exact W
    · rw [if_neg e]; exact hP _ (by omega)
  · rw [if_neg h8] at hi
    rw [if_neg h8]
    by_cases e : i = cnt
    · rw [if_pos e]; exact W
    · rw [if_neg e]; exact hP _ (by omega)
theorem no_r {α : Type} {k : Nat} {v : α} : ∀ w, (Sum.inl k : RX α) = .inr w → w = v := fun _ h => (nomatch h)
theorem no_l {α : Type} {v : α} {P : Nat → Prop} : ∀ k, (Sum.inr v : RX α) = .inl k → P k := fun _ h => (nomatch h)
theorem refuse_0 : F_X9_refuse n 0 M = some (.inr ()) := rfl
theorem refuse_e {e : Nat} (h0 : e ≠ 0) (h : e < 23) : F_X9_refuse n e M = some (.inl (kd e)) := by
  rcases (by omega : e = 1 ∨ e = 2 ∨ e = 3 ∨ e = 4 ∨ e = 5 ∨ e = 6 ∨ e = 7 ∨ e = 8 ∨ e = 9 ∨ e = 10 ∨ e = 11 ∨ e = 12 ∨ e = 13 ∨ e = 14 ∨ e = 15 ∨ e = 16 ∨ e = 17 ∨ e = 18 ∨ e = 19 ∨ e = 20 ∨ e = 21 ∨ e = 22) with h | h | h | h | h | h | h | h | h | h | h | h | h | h | h | h | h | h | h | h | h | h <;> subst h <;> rfl
theorem Rel.mono {j : Nat} (h : Rel j T M Mm) (hj : j < 512) : Rel (j + 1) T M Mm := by
  obtain ⟨_, h1, V, h2, h3, h4, cnt, past, h5⟩ := h
  exact ⟨by omega, h1.fr (by omega) rfl (fun _ _ _ => rfl) rfl rfl (fun _ _ _ => rfl) rfl rfl rfl rfl rfl, V, h2, h3.mono (by omega), h4, cnt, past, h5.fr (by omega) (fun _ _ _ => rfl) rfl rfl⟩
/-- the two systems' change of one step -/
theorem op_gen {L : List Nat} {B : Nat} {rf : Mem → Option Nat} {dof ref : Mem → Option (Int32 × Mem)} (hn : 2900 ≤ n) (hB : B ≤ 65536) (hL : L.length ≤ 10)
    (hst : ∀ c V M Mm, RR Mm V → WF c V → c < 60000 → AR M 1 V → StpR 1 c L B V M Mm rf dof ref) {j : Nat} (hj : j < 512) (h : Rel j T M Mm) :
    (∃ k Mm1 Mm2, k ∈ L ∧ (∃ e, rf M = some e ∧ F_X9_refuse n e M = some (.inl k)) ∧ (∃ M1, F_X10_begins n Mm = some M1 ∧ ref M1 = some (nI 0, Mm1) ∧ F_X10_ends n (nI 0) Mm1 = some (nI 0, Mm2)) ∧ Mm2 0 0 = nI (L.idxOf k + 1) ∧ Rel (j + 1) T M Mm2) ∨
    (∃ r Mc Mc' Mm1 Mm2, r < B ∧ (∃ e, rf M = some e ∧ F_X9_refuse n e M = some (.inr ())) ∧ F_X5_push n 94 1 M = some Mc ∧ dof Mc = some (nI r, Mc') ∧ (∃ M1, F_X10_begins n Mm = some M1 ∧ ref M1 = some (nI r, Mm1) ∧ F_X10_ends n (nI r) Mm1 = some (nI r, Mm2)) ∧ Mm2 0 0 = nI 0 ∧ Rel (j + 1) T Mc' Mm2) := by
  obtain ⟨_, hO, V, hR, W, hA, cnt, past, hH⟩ := h
  obtain ⟨M2, b1, b2, b3, b4, b5⟩ := R_begins (n := n) (Mm := Mm) (by omega)
  have hR2 : RR M2 V := hR.fr (b5 1 (by decide) (by decide))
  rcases hst _ V M M2 hR2 W (by omega) hA with ⟨e, e0, e1, e2, e3, e4⟩ | ⟨e3, V', r, Mm1, hr, e4, e5, hR1, W1, hdo⟩
  · left
    have hne : up2 M2 0 0 (nI (L.idxOf (kd e) + 1)) 0 0 ≠ nI 0 := by
      rw [u2_s]
      intro q
      have hl : L.idxOf (kd e) < L.length := List.idxOf_lt_length_iff.mpr e2
      rw [n_eq (by omega) (by decide)] at q
      omega
    obtain ⟨M3, c1, c2, c3⟩ := R_ends_no (n := n) (x1 := nI 0) hne (by omega)
    refine ⟨kd e, _, M3, e2, ⟨e, e3, refuse_e e0 e1⟩, ⟨M2, b1, e4, c1⟩, by rw [c3 0 (by decide), u2_s], by omega, ?_, V, ?_, W.mono (by omega), hA, cnt, past, ?_⟩
    · have z : ∀ j, 1 < j → M3 0 j = Mm 0 j := fun j hj => by rw [c3 0 (by decide), u2_j (by omega), b3 j (by omega)]
      have z2 : ∀ k, k ≠ 0 → k ≠ 1 → k ≠ 2 → M3 k = Mm k := fun k h0 h1 h2 => by rw [c3 k h1, u2_k h0, b5 k h0 h2]
      exact hO.fr (by omega) rfl (fun _ _ _ => rfl) rfl rfl (fun j h _ => z j h) (z2 3 (by decide) (by decide) (by decide)) (z2 5 (by decide) (by decide) (by decide)) (z2 6 (by decide) (by decide) (by decide)) (z2 8 (by decide) (by decide) (by decide)) (z2 9 (by decide) (by decide) (by decide))
    · intro k hk
      rw [c2 k hk, u2_k (by decide), b4 k hk]
      exact hR k hk
    · exact hH.fr (by omega) (fun _ _ _ => rfl) (by rw [c3 0 (by decide), u2_j (by decide), b3 1 (by decide)]) (by rw [c3 4 (by decide), u2_k (by decide), b5 4 (by decide) (by decide)])
  · right
    obtain ⟨h1, h2, h3, ⟨nx, x1, x2, x3⟩, h5⟩ := hH
    obtain ⟨Mc, p1, p2, p3, nx', p4, p5, p6⟩ := C_push (n := n) (o := 1) W (by omega) hA (by decide) (fun i hi => (h5 i hi).1) h1 h3 x1 x2 x3
    obtain ⟨Mc', d1, d2, d3⟩ := hdo Mc (hA.cong W (fun k q1 q2 => p2 k (by omega)))
    obtain ⟨Mm2, q1, q2, q3, q4, q5⟩ := R_ends (n := n) (M := Mm1) (cnt := cnt) (past := past) (V := V) (x1 := nI r) (by rw [e5 0 (by decide), b2]) h1 (by rw [e5 0 (by decide), b3 1 (by decide), h2]) (fun i hi k hk => by rw [e5 4 (by decide), b5 4 (by decide) (by decide)]; exact (h5 i hi).2 k hk) (fun k hk => by rw [e5 2 (by decide), b4 k hk]; exact hR k hk) (by omega)
    have z : ∀ j, 1 < j → Mm2 0 j = Mm 0 j := fun j hj => by rw [q5 j (by omega), e5 0 (by decide), b3 j (by omega)]
    have z2 : ∀ k, k ≠ 0 → k ≠ 1 → k ≠ 2 → k ≠ 4 → Mm2 k = Mm k := fun k h0 h1 h2 h4 => by rw [q4 k h4 h0, e5 k h1, b5 k h0 h2]
    refine ⟨r, Mc, Mc', Mm1, Mm2, hr, ⟨0, e3, refuse_0⟩, p1, d1, ⟨M2, b1, e4, q1⟩, by rw [q5 0 (by decide), e5 0 (by decide), b2], by omega, ?_, V', hR1.fr (q4 1 (by decide) (by decide)), W1.mono (by omega), d2, (if cnt = 8 then 8 else cnt + 1), pushP cnt past V, ?_⟩
    · exact hO.fr (by omega) (by rw [d3 0 (by decide), p2 0 (by decide)]) (fun k h1 h2 => by rw [d3 k (by omega), p2 k (by omega)]) (by rw [d3 370 (by decide), p2 370 (by decide)]) (by rw [d3 371 (by decide), p2 371 (by decide)]) (fun j h _ => z j h) (z2 3 (by decide) (by decide) (by decide) (by decide)) (z2 5 (by decide) (by decide) (by decide) (by decide)) (z2 6 (by decide) (by decide) (by decide) (by decide)) (z2 8 (by decide) (by decide) (by decide) (by decide)) (z2 9 (by decide) (by decide) (by decide) (by decide))
    · refine ⟨by split <;> omega, q2, by rw [d3 94 (by decide)]; exact p3, ⟨nx', p4, by rw [d3 94 (by decide)]; exact p5, fun i hi => (p6 i hi).cong (pushP_WF W (fun i hi => (h5 i hi).1) i hi) (fun k g1 g2 => d3 k (by omega))⟩, fun i hi => ⟨(pushP_WF W (fun i hi => (h5 i hi).1) i hi).mono (by omega), q3 i hi⟩⟩
theorem sc_addFrog (hn : 2900 ≤ n) : SC_addFrog n Rel := by
  intro j T M Mm x1 x2 hj h
  rcases op_gen (L := [2, 1, 0]) hn (by decide : 65536 ≤ 65536) (by decide) (fun c V M Mm hR W hc hA => s_addFrog (n := n) hR W (by omega) hA x1 x2) hj h with ⟨k, Mm1, Mm2, hk, ⟨e, e1, e2⟩, ⟨M1, b, r, en⟩, h0, hRel⟩ | ⟨r, Mc, Mc', Mm1, Mm2, hr, ⟨e, e1, e2⟩, p, d, ⟨M1, b, rr, en⟩, h0, hRel⟩
  · refine ⟨.inl k, M, nI 0, Mm2, ?_, ?_, ?_, h0, no_r, hRel⟩
    · unfold F_X9_addFrog
      rw [e1, ob_s, e2, obxr_l]
    · unfold F_X10_addFrog
      rw [b, ob_s, r, ob2_s, en, ob2_s]
    · intro k' hk'
      cases hk'
      simpa using hk
  · refine ⟨.inr (nI r), Mc', nI r, Mm2, ?_, ?_, no_l, h0, fun w hw => (Sum.inr.inj hw).symm, hRel⟩
    · unfold F_X9_addFrog
      rw [e1, ob_s, e2, obxr_r, p, ob_s, d, ob2_s]
    · unfold F_X10_addFrog
      rw [b, ob_s, rr, ob2_s, en, ob2_s]
theorem sc_addPad (hn : 2900 ≤ n) : SC_addPad n Rel := by
  intro j T M Mm x1 hj h
  rcases op_gen (L := [1, 0]) hn (by decide : 65536 ≤ 65536) (by decide) (fun c V M Mm hR W hc hA => s_addPad (n := n) hR W (by omega) hA x1) hj h with ⟨k, Mm1, Mm2, hk, ⟨e, e1, e2⟩, ⟨M1, b, r, en⟩, h0, hRel⟩ | ⟨r, Mc, Mc', Mm1, Mm2, hr, ⟨e, e1, e2⟩, p, d, ⟨M1, b, rr, en⟩, h0, hRel⟩
  · refine ⟨.inl k, M, nI 0, Mm2, ?_, ?_, ?_, h0, no_r, hRel⟩
    · unfold F_X9_addPad
      rw [e1, ob_s, e2, obxr_l]
    · unfold F_X10_addPad
      rw [b, ob_s, r, ob2_s, en, ob2_s]
    · intro k' hk'
      cases hk'
      simpa using hk
  · refine ⟨.inr (nI r), Mc', nI r, Mm2, ?_, ?_, no_l, h0, fun w hw => (Sum.inr.inj hw).symm, hRel⟩
    · unfold F_X9_addPad
      rw [e1, ob_s, e2, obxr_r, p, ob_s, d, ob2_s]
    · unfold F_X10_addPad
      rw [b, ob_s, rr, ob2_s, en, ob2_s]
theorem sc_hop (hn : 2900 ≤ n) : SC_hop n Rel := by
  intro j T M Mm x1 x2 hj h
  rcases op_gen (L := [2, 0]) hn (by decide : 65536 ≤ 65536) (by decide) (fun c V M Mm hR W hc hA => s_hop (n := n) hR W (by omega) hA x1 x2) hj h with ⟨k, Mm1, Mm2, hk, ⟨e, e1, e2⟩, ⟨M1, b, r, en⟩, h0, hRel⟩ | ⟨r, Mc, Mc', Mm1, Mm2, hr, ⟨e, e1, e2⟩, p, d, ⟨M1, b, rr, en⟩, h0, hRel⟩
  · refine ⟨.inl k, M, nI 0, Mm2, ?_, ?_, ?_, h0, no_r, hRel⟩
    · unfold F_X9_hop
      rw [e1, ob_s, e2, obxr_l]
    · unfold F_X10_hop
      rw [b, ob_s, r, ob2_s, en, ob2_s]
    · intro k' hk'
      cases hk'
      simpa using hk
  · refine ⟨.inr (nI r), Mc', nI r, Mm2, ?_, ?_, no_l, h0, fun w hw => (Sum.inr.inj hw).symm, hRel⟩
    · unfold F_X9_hop
      rw [e1, ob_s, e2, obxr_r, p, ob_s, d, ob2_s]
    · unfold F_X10_hop
      rw [b, ob_s, rr, ob2_s, en, ob2_s]
theorem sc_dive (hn : 2900 ≤ n) : SC_dive n Rel := by
  intro j T M Mm x1 hj h
  rcases op_gen (L := [2, 0]) hn (by decide : 65536 ≤ 65536) (by decide) (fun c V M Mm hR W hc hA => s_dive (n := n) hR W (by omega) hA x1) hj h with ⟨k, Mm1, Mm2, hk, ⟨e, e1, e2⟩, ⟨M1, b, r, en⟩, h0, hRel⟩ | ⟨r, Mc, Mc', Mm1, Mm2, hr, ⟨e, e1, e2⟩, p, d, ⟨M1, b, rr, en⟩, h0, hRel⟩
  · refine ⟨.inl k, M, nI 0, Mm2, ?_, ?_, ?_, h0, no_r, hRel⟩
    · unfold F_X9_dive
      rw [e1, ob_s, e2, obxr_l]
    · unfold F_X10_dive
      rw [b, ob_s, r, ob2_s, en, ob2_s]
    · intro k' hk'
      cases hk'
      simpa using hk
  · refine ⟨.inr (nI r), Mc', nI r, Mm2, ?_, ?_, no_l, h0, fun w hw => (Sum.inr.inj hw).symm, hRel⟩
    · unfold F_X9_dive
      rw [e1, ob_s, e2, obxr_r, p, ob_s, d, ob2_s]
    · unfold F_X10_dive
      rw [b, ob_s, rr, ob2_s, en, ob2_s]
theorem sc_addMotion (hn : 2900 ≤ n) : SC_addMotion n Rel := by
  intro j T M Mm x1 hj h
  rcases op_gen (L := [1, 0]) hn (by decide : 65536 ≤ 65536) (by decide) (fun c V M Mm hR W hc hA => s_addMotion (n := n) hR W (by omega) hA x1) hj h with ⟨k, Mm1, Mm2, hk, ⟨e, e1, e2⟩, ⟨M1, b, r, en⟩, h0, hRel⟩ | ⟨r, Mc, Mc', Mm1, Mm2, hr, ⟨e, e1, e2⟩, p, d, ⟨M1, b, rr, en⟩, h0, hRel⟩
  · refine ⟨.inl k, M, nI 0, Mm2, ?_, ?_, ?_, h0, no_r, hRel⟩
    · unfold F_X9_addMotion
      rw [e1, ob_s, e2, obxr_l]
    · unfold F_X10_addMotion
      rw [b, ob_s, r, ob2_s, en, ob2_s]
    · intro k' hk'
      cases hk'
      simpa using hk
  · refine ⟨.inr (nI r), Mc', nI r, Mm2, ?_, ?_, no_l, h0, fun w hw => (Sum.inr.inj hw).symm, hRel⟩
    · unfold F_X9_addMotion
      rw [e1, ob_s, e2, obxr_r, p, ob_s, d, ob2_s]
    · unfold F_X10_addMotion
      rw [b, ob_s, rr, ob2_s, en, ob2_s]
theorem sc_signUp (hn : 2900 ≤ n) : SC_signUp n Rel := by
  intro j T M Mm x1 x2 hj h
  rcases op_gen (L := [2, 1, 0, 4]) hn (by decide : 65536 ≤ 65536) (by decide) (fun c V M Mm hR W hc hA => s_signUp (n := n) hR W (by omega) (by omega) hA x1 x2) hj h with ⟨k, Mm1, Mm2, hk, ⟨e, e1, e2⟩, ⟨M1, b, r, en⟩, h0, hRel⟩ | ⟨r, Mc, Mc', Mm1, Mm2, hr, ⟨e, e1, e2⟩, p, d, ⟨M1, b, rr, en⟩, h0, hRel⟩
  · refine ⟨.inl k, M, nI 0, Mm2, ?_, ?_, ?_, h0, no_r, hRel⟩
    · unfold F_X9_signUp
      rw [e1, ob_s, e2, obxr_l]
    · unfold F_X10_signUp
      rw [b, ob_s, r, ob2_s, en, ob2_s]
    · intro k' hk'
      cases hk'
      simpa using hk
  · refine ⟨.inr (nI r), Mc', nI r, Mm2, ?_, ?_, no_l, h0, fun w hw => (Sum.inr.inj hw).symm, hRel⟩
    · unfold F_X9_signUp
      rw [e1, ob_s, e2, obxr_r, p, ob_s, d, ob2_s]
    · unfold F_X10_signUp
      rw [b, ob_s, rr, ob2_s, en, ob2_s]
theorem sc_strike (hn : 2900 ≤ n) : SC_strike n Rel := by
  intro j T M Mm x1 x2 hj h
  rcases op_gen (L := [2, 5]) hn (by decide : 65536 ≤ 65536) (by decide) (fun c V M Mm hR W hc hA => s_strike (n := n) hR W (by omega) hA x1 x2) hj h with ⟨k, Mm1, Mm2, hk, ⟨e, e1, e2⟩, ⟨M1, b, r, en⟩, h0, hRel⟩ | ⟨r, Mc, Mc', Mm1, Mm2, hr, ⟨e, e1, e2⟩, p, d, ⟨M1, b, rr, en⟩, h0, hRel⟩
  · refine ⟨.inl k, M, nI 0, Mm2, ?_, ?_, ?_, h0, no_r, hRel⟩
    · unfold F_X9_strike
      rw [e1, ob_s, e2, obxr_l]
    · unfold F_X10_strike
      rw [b, ob_s, r, ob2_s, en, ob2_s]
    · intro k' hk'
      cases hk'
      simpa using hk
  · refine ⟨.inr (nI r), Mc', nI r, Mm2, ?_, ?_, no_l, h0, fun w hw => (Sum.inr.inj hw).symm, hRel⟩
    · unfold F_X9_strike
      rw [e1, ob_s, e2, obxr_r, p, ob_s, d, ob2_s]
    · unfold F_X10_strike
      rw [b, ob_s, rr, ob2_s, en, ob2_s]
theorem sc_callNext (hn : 2900 ≤ n) : SC_callNext n Rel := by
  intro j T M Mm x1 hj h
  rcases op_gen (L := [2, 5]) hn (by decide : 2 ≤ 65536) (by decide) (fun c V M Mm hR W hc hA => s_callNext (n := n) hR W (by omega) (by omega) hA x1) hj h with ⟨k, Mm1, Mm2, hk, ⟨e, e1, e2⟩, ⟨M1, b, r, en⟩, h0, hRel⟩ | ⟨r, Mc, Mc', Mm1, Mm2, hr, ⟨e, e1, e2⟩, p, d, ⟨M1, b, rr, en⟩, h0, hRel⟩
  · refine ⟨.inl k, M, nI 0, Mm2, ?_, ?_, ?_, h0, no_r, hRel⟩
    · unfold F_X9_callNext
      rw [e1, ob_s, e2, obxr_l]
    · unfold F_X10_callNext
      rw [b, ob_s, r, ob2_s, en, ob2_s]
      rfl
    · intro k' hk'
      cases hk'
      simpa using hk
  · refine ⟨.inr (nI r), Mc', nI r, Mm2, ?_, ?_, no_l, h0, fun w hw => (Sum.inr.inj hw).symm, hRel⟩
    · unfold F_X9_callNext
      rw [e1, ob_s, e2, obxr_r, p, ob_s, d, ob2_s, isB_le (by omega), chk_t]
    · unfold F_X10_callNext
      rw [b, ob_s, rr, ob2_s, en, ob2_s]
      rcases (by omega : r = 0 ∨ r = 1) with q | q <;> subst q <;> rfl
theorem sc_supportClosure (hn : 2900 ≤ n) : SC_supportClosure n Rel := by
  intro j T M Mm x1 x2 hj h
  rcases op_gen (L := [2, 1, 0, 4]) hn (by decide : 2 ≤ 65536) (by decide) (fun c V M Mm hR W hc hA => s_support (n := n) hR W (by omega) hA x1 x2) hj h with ⟨k, Mm1, Mm2, hk, ⟨e, e1, e2⟩, ⟨M1, b, r, en⟩, h0, hRel⟩ | ⟨r, Mc, Mc', Mm1, Mm2, hr, ⟨e, e1, e2⟩, p, d, ⟨M1, b, rr, en⟩, h0, hRel⟩
  · refine ⟨.inl k, M, nI 0, Mm2, ?_, ?_, ?_, h0, no_r, hRel⟩
    · unfold F_X9_supportClosure
      rw [e1, ob_s, e2, obxr_l]
    · unfold F_X10_supportClosure
      rw [b, ob_s, r, ob2_s, en, ob2_s]
      rfl
    · intro k' hk'
      cases hk'
      simpa using hk
  · refine ⟨.inr (nI r), Mc', nI r, Mm2, ?_, ?_, no_l, h0, fun w hw => (Sum.inr.inj hw).symm, hRel⟩
    · unfold F_X9_supportClosure
      rw [e1, ob_s, e2, obxr_r, p, ob_s, d, ob2_s, isB_le (by omega), chk_t]
    · unfold F_X10_supportClosure
      rw [b, ob_s, rr, ob2_s, en, ob2_s]
      rcases (by omega : r = 0 ∨ r = 1) with q | q <;> subst q <;> rfl
theorem sc_decide (hn : 2900 ≤ n) : SC_decide n Rel := by
  intro j T M Mm x1 hj h
  rcases op_gen (L := [2, 0]) hn (by decide : 2 ≤ 65536) (by decide) (fun c V M Mm hR W hc hA => s_decide (n := n) hR W (by omega) hA x1) hj h with ⟨k, Mm1, Mm2, hk, ⟨e, e1, e2⟩, ⟨M1, b, r, en⟩, h0, hRel⟩ | ⟨r, Mc, Mc', Mm1, Mm2, hr, ⟨e, e1, e2⟩, p, d, ⟨M1, b, rr, en⟩, h0, hRel⟩
  · refine ⟨.inl k, M, nI 0, Mm2, ?_, ?_, ?_, h0, no_r, hRel⟩
    · unfold F_X9_decide
      rw [e1, ob_s, e2, obxr_l]
    · unfold F_X10_decide
      rw [b, ob_s, r, ob2_s, en, ob2_s]
      rfl
    · intro k' hk'
      cases hk'
      simpa using hk
  · refine ⟨.inr (nI r), Mc', nI r, Mm2, ?_, ?_, no_l, h0, fun w hw => (Sum.inr.inj hw).symm, hRel⟩
    · unfold F_X9_decide
      rw [e1, ob_s, e2, obxr_r, p, ob_s, d, ob2_s, isB_le (by omega), chk_t]
    · unfold F_X10_decide
      rw [b, ob_s, rr, ob2_s, en, ob2_s]
      rcases (by omega : r = 0 ∨ r = 1) with q | q <;> subst q <;> rfl
theorem sc_croak (hn : 2900 ≤ n) : SC_croak n Rel := by
  intro j T M Mm x1 x2 x3 x4 hj h hx4
  obtain ⟨s, hs, rfl, hif⟩ : ∃ s, s ≤ 1 ∧ x4 = nI s ∧ ∀ {α : Type} (a b : α), (if x4 = 0 then a else b) = if s = 0 then a else b := by
    rcases hx4 with rfl | rfl
    · exact ⟨0, by decide, rfl, fun a b => rfl⟩
    · exact ⟨1, by decide, rfl, fun a b => rfl⟩
  have hcr : ∀ M2, (if nI s = 0 then ob2 (F_X10_croaks n x1 x2 x3 0 M2) (fun r_5 M_6 => ob2 (F_X10_ends n r_5 M_6) (fun r_8 M_9 => some (r_8, M_9))) else ob2 (F_X10_croaks n x1 x2 x3 1 M2) (fun r_11 M_12 => ob2 (F_X10_ends n r_11 M_12) (fun r_14 M_15 => some (r_14, M_15)))) = ob2 (F_X10_croaks n x1 x2 x3 (nI s) M2) (fun r M => ob2 (F_X10_ends n r M) (fun r M => some (r, M))) := fun M2 => by
    rw [hif]
    rcases (by omega : s = 0 ∨ s = 1) with q | q <;> subst q <;> rfl
  rcases op_gen (L := [2, 1, 0, 4]) hn (by decide : 65536 ≤ 65536) (by decide) (fun c V M Mm hR W hc hA => s_croak (n := n) hR W (by omega) hA x1 x2 x3 hs) hj h with ⟨k, Mm1, Mm2, hk, ⟨e, e1, e2⟩, ⟨M1, b, r, en⟩, h0, hRel⟩ | ⟨r, Mc, Mc', Mm1, Mm2, hr, ⟨e, e1, e2⟩, p, d, ⟨M1, b, rr, en⟩, h0, hRel⟩
  · refine ⟨.inl k, M, nI 0, Mm2, ?_, ?_, ?_, h0, no_r, hRel⟩
    · unfold F_X9_croak
      rw [e1, ob_s, e2, obxr_l]
    · unfold F_X10_croak
      rw [b, ob_s, hcr, r, ob2_s, en, ob2_s]
    · intro k' hk'
      cases hk'
      simpa using hk
  · refine ⟨.inr (nI r), Mc', nI r, Mm2, ?_, ?_, no_l, h0, fun w hw => (Sum.inr.inj hw).symm, hRel⟩
    · unfold F_X9_croak
      rw [e1, ob_s, e2, obxr_r, p, ob_s, d, ob2_s]
    · unfold F_X10_croak
      rw [b, ob_s, hcr, rr, ob2_s, en, ob2_s]
end REL
