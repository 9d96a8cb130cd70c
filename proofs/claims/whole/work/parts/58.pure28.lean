/-! ===== PURE: a command done ===== -/
theorem ob_id {α : Type} (x : Option α) : ob x (fun r => some r) = x := by cases x <;> rfl
theorem ob2_id {α β : Type} (x : Option (α × β)) : ob2 x (fun r M => some (r, M)) = x := by
  cases x with
  | none => rfl
  | some p => rfl
/-- what a command does to both -/
def CmdR (n c : Nat) (V : Nat → Nat) (o1 : Nat) (M Mm : Mem) (dz : Option (Int32 × Mem)) : Prop :=
  (∃ e t, e ≠ 0 ∧ e < 23 ∧ t ≠ 0 ∧ t < 100 ∧ F_X2_refusalOf n 1 o1 M = some e ∧ dz = some (nI 0, up2 Mm 0 0 (nI t))) ∨
  (F_X2_refusalOf n 1 o1 M = some 0 ∧ ∃ V' r Mm' M', dz = some (nI r, Mm') ∧ (∀ k, k ≠ 1 → Mm' k = Mm k) ∧ RR Mm' V' ∧ WF (c + 1) V' ∧ F_X2_carryOut n 1 o1 M = some M' ∧ AR M' 1 V' ∧ ∀ k, k < 1 ∨ 1 + 31 ≤ k → M' k = M k)
section CMD
variable {n c o1 s : Nat} {M Mm : Mem} {V : Nat → Nat}
theorem cmd_of {L : List Nat} {B : Nat} {rf : Mem → Option Nat} {dof ref : Mem → Option (Int32 × Mem)} {dz : Option (Int32 × Mem)} (h : StpR 1 c L B V M Mm rf dof ref) (hA : AR M 1 V) (hL : L.length ≤ 10) (e1 : F_X2_refusalOf n 1 o1 M = rf M) (e2 : F_X2_carryOut n 1 o1 M = ob2 (dof M) (fun _ M' => some M')) (e3 : dz = ref Mm) : CmdR n c V o1 M Mm dz := by
  rcases h with ⟨e, h0, h1, h2, h3, h4⟩ | ⟨h3, V', r, Mm', hr, h4, h5, h6, h7, h8⟩
  · have hl : L.idxOf (kd e) < L.length := List.idxOf_lt_length_iff.mpr h2
    exact .inl ⟨e, L.idxOf (kd e) + 1, h0, h1, by omega, by omega, e1.trans h3, e3.trans h4⟩
  · obtain ⟨M', g1, g2, g3⟩ := h8 M hA
    exact .inr ⟨e1.trans h3, V', r, Mm', M', e3.trans h4, h5, h6, h7, by rw [e2, g1]; rfl, g2, g3⟩
theorem i0 : inb 0 4 = true := by decide
theorem i1 : inb 1 4 = true := by decide
theorem i2 : inb 2 4 = true := by decide
theorem i3 : inb 3 4 = true := by decide
theorem cmd_0 (hR : RR Mm V) (W : WF c V) (hc : c < 60000) (hn : 2900 ≤ n) (hA : AR M 1 V) (h0 : M o1 0 = nI 0) : CmdR n c V o1 M Mm (F_X10_does n (nI 0) (M (o1 + 1) 0) (M (o1 + 1) 1) (M (o1 + 1) 3) (nI s) Mm) := by
  refine cmd_of (s_addFrog (n := n) hR W (by omega) hA (M (o1 + 1) 0) (M (o1 + 1) 1)) hA (by decide) ?_ ?_ ?_
  · unfold F_X2_refusalOf
    rw [h0, show decide (ix (nI 0) < 11) = true from by decide, chk_t, show inb (nI (ix (nI 0))) 11 = true from by decide, chk_t, if_pos (by decide), i0, chk_t, i1, chk_t]
    exact ob_id _
  · unfold F_X2_carryOut
    rw [h0, show decide (ix (nI 0) < 11) = true from by decide, chk_t, show inb (nI (ix (nI 0))) 11 = true from by decide, chk_t, if_pos (by decide), i0, chk_t, i1, chk_t]
    rfl
  · unfold F_X10_does
    rw [if_pos (by decide)]
    exact ob2_id _
theorem cmd_1 (hR : RR Mm V) (W : WF c V) (hc : c < 60000) (hn : 2900 ≤ n) (hA : AR M 1 V) (h0 : M o1 0 = nI 1) : CmdR n c V o1 M Mm (F_X10_does n (nI 1) (M (o1 + 1) 0) (M (o1 + 1) 1) (M (o1 + 1) 3) (nI s) Mm) := by
  refine cmd_of (s_addPad (n := n) hR W (by omega) hA (M (o1 + 1) 0)) hA (by decide) ?_ ?_ ?_
  · unfold F_X2_refusalOf
    rw [h0, show decide (ix (nI 1) < 11) = true from by decide, chk_t, show inb (nI (ix (nI 1))) 11 = true from by decide, chk_t, if_neg (by decide), if_pos (by decide), i0, chk_t]
    exact ob_id _
  · unfold F_X2_carryOut
    rw [h0, show decide (ix (nI 1) < 11) = true from by decide, chk_t, show inb (nI (ix (nI 1))) 11 = true from by decide, chk_t, if_neg (by decide), if_pos (by decide), i0, chk_t]
    rfl
  · unfold F_X10_does
    rw [if_neg (by decide), if_pos (by decide)]
    exact ob2_id _
theorem cmd_2 (hR : RR Mm V) (W : WF c V) (hc : c < 60000) (hn : 2900 ≤ n) (hA : AR M 1 V) (h0 : M o1 0 = nI 2) : CmdR n c V o1 M Mm (F_X10_does n (nI 2) (M (o1 + 1) 0) (M (o1 + 1) 1) (M (o1 + 1) 3) (nI s) Mm) := by
  refine cmd_of (s_hop (n := n) hR W (by omega) hA (M (o1 + 1) 0) (M (o1 + 1) 1)) hA (by decide) ?_ ?_ ?_
  · unfold F_X2_refusalOf
    rw [h0, show decide (ix (nI 2) < 11) = true from by decide, chk_t, show inb (nI (ix (nI 2))) 11 = true from by decide, chk_t, if_neg (by decide), if_neg (by decide), if_pos (by decide), i0, chk_t, i1, chk_t]
    exact ob_id _
  · unfold F_X2_carryOut
    rw [h0, show decide (ix (nI 2) < 11) = true from by decide, chk_t, show inb (nI (ix (nI 2))) 11 = true from by decide, chk_t, if_neg (by decide), if_neg (by decide), if_pos (by decide), i0, chk_t, i1, chk_t]
    rfl
  · unfold F_X10_does
    rw [if_neg (by decide), if_neg (by decide), if_pos (by decide)]
    exact ob2_id _
theorem cmd_3 (hR : RR Mm V) (W : WF c V) (hc : c < 60000) (hn : 2900 ≤ n) (hA : AR M 1 V) (h0 : M o1 0 = nI 3) : CmdR n c V o1 M Mm (F_X10_does n (nI 3) (M (o1 + 1) 0) (M (o1 + 1) 1) (M (o1 + 1) 3) (nI s) Mm) := by
  refine cmd_of (s_dive (n := n) hR W (by omega) hA (M (o1 + 1) 0)) hA (by decide) ?_ ?_ ?_
  · unfold F_X2_refusalOf
    rw [h0, show decide (ix (nI 3) < 11) = true from by decide, chk_t, show inb (nI (ix (nI 3))) 11 = true from by decide, chk_t, if_neg (by decide), if_neg (by decide), if_neg (by decide), if_pos (by decide), i0, chk_t]
    exact ob_id _
  · unfold F_X2_carryOut
    rw [h0, show decide (ix (nI 3) < 11) = true from by decide, chk_t, show inb (nI (ix (nI 3))) 11 = true from by decide, chk_t, if_neg (by decide), if_neg (by decide), if_neg (by decide), if_pos (by decide), i0, chk_t]
    rfl
  · unfold F_X10_does
    rw [if_neg (by decide), if_neg (by decide), if_neg (by decide), if_pos (by decide)]
    exact ob2_id _
theorem cmd_4 (hR : RR Mm V) (W : WF c V) (hc : c < 60000) (hn : 2900 ≤ n) (hA : AR M 1 V) (h0 : M o1 0 = nI 4) : CmdR n c V o1 M Mm (F_X10_does n (nI 4) (M (o1 + 1) 0) (M (o1 + 1) 1) (M (o1 + 1) 3) (nI s) Mm) := by
  refine cmd_of (s_addMotion (n := n) hR W (by omega) hA (M (o1 + 1) 0)) hA (by decide) ?_ ?_ ?_
  · unfold F_X2_refusalOf
    rw [h0, show decide (ix (nI 4) < 11) = true from by decide, chk_t, show inb (nI (ix (nI 4))) 11 = true from by decide, chk_t, if_neg (by decide), if_neg (by decide), if_neg (by decide), if_neg (by decide), if_pos (by decide), i0, chk_t]
    exact ob_id _
  · unfold F_X2_carryOut
    rw [h0, show decide (ix (nI 4) < 11) = true from by decide, chk_t, show inb (nI (ix (nI 4))) 11 = true from by decide, chk_t, if_neg (by decide), if_neg (by decide), if_neg (by decide), if_neg (by decide), if_pos (by decide), i0, chk_t]
    rfl
  · unfold F_X10_does
    rw [if_neg (by decide), if_neg (by decide), if_neg (by decide), if_neg (by decide), if_pos (by decide)]
    exact ob2_id _
theorem cmd_5 (hR : RR Mm V) (W : WF c V) (hc : c < 60000) (hn : 2900 ≤ n) (hA : AR M 1 V) (h0 : M o1 0 = nI 5) : CmdR n c V o1 M Mm (F_X10_does n (nI 5) (M (o1 + 1) 0) (M (o1 + 1) 1) (M (o1 + 1) 3) (nI s) Mm) := by
  refine cmd_of (s_signUp (n := n) hR W (by omega) (by omega) hA (M (o1 + 1) 0) (M (o1 + 1) 1)) hA (by decide) ?_ ?_ ?_
  · unfold F_X2_refusalOf
    rw [h0, show decide (ix (nI 5) < 11) = true from by decide, chk_t, show inb (nI (ix (nI 5))) 11 = true from by decide, chk_t, if_neg (by decide), if_neg (by decide), if_neg (by decide), if_neg (by decide), if_neg (by decide), if_pos (by decide), i0, chk_t, i1, chk_t]
    exact ob_id _
  · unfold F_X2_carryOut
    rw [h0, show decide (ix (nI 5) < 11) = true from by decide, chk_t, show inb (nI (ix (nI 5))) 11 = true from by decide, chk_t, if_neg (by decide), if_neg (by decide), if_neg (by decide), if_neg (by decide), if_neg (by decide), if_pos (by decide), i0, chk_t, i1, chk_t]
    rfl
  · unfold F_X10_does
    rw [if_neg (by decide), if_neg (by decide), if_neg (by decide), if_neg (by decide), if_neg (by decide), if_pos (by decide)]
    exact ob2_id _
theorem cmd_6 (hR : RR Mm V) (W : WF c V) (hc : c < 60000) (hn : 2900 ≤ n) (hA : AR M 1 V) (h0 : M o1 0 = nI 6) : CmdR n c V o1 M Mm (F_X10_does n (nI 6) (M (o1 + 1) 0) (M (o1 + 1) 1) (M (o1 + 1) 3) (nI s) Mm) := by
  refine cmd_of (s_strike (n := n) hR W (by omega) hA (M (o1 + 1) 0) (M (o1 + 1) 1)) hA (by decide) ?_ ?_ ?_
  · unfold F_X2_refusalOf
    rw [h0, show decide (ix (nI 6) < 11) = true from by decide, chk_t, show inb (nI (ix (nI 6))) 11 = true from by decide, chk_t, if_neg (by decide), if_neg (by decide), if_neg (by decide), if_neg (by decide), if_neg (by decide), if_neg (by decide), if_pos (by decide), i0, chk_t, i1, chk_t]
    exact ob_id _
  · unfold F_X2_carryOut
    rw [h0, show decide (ix (nI 6) < 11) = true from by decide, chk_t, show inb (nI (ix (nI 6))) 11 = true from by decide, chk_t, if_neg (by decide), if_neg (by decide), if_neg (by decide), if_neg (by decide), if_neg (by decide), if_neg (by decide), if_pos (by decide), i0, chk_t, i1, chk_t]
    rfl
  · unfold F_X10_does
    rw [if_neg (by decide), if_neg (by decide), if_neg (by decide), if_neg (by decide), if_neg (by decide), if_neg (by decide), if_pos (by decide)]
    exact ob2_id _
theorem cmd_7 (hR : RR Mm V) (W : WF c V) (hc : c < 60000) (hn : 2900 ≤ n) (hA : AR M 1 V) (h0 : M o1 0 = nI 7) : CmdR n c V o1 M Mm (F_X10_does n (nI 7) (M (o1 + 1) 0) (M (o1 + 1) 1) (M (o1 + 1) 3) (nI s) Mm) := by
  refine cmd_of (s_callNext (n := n) hR W (by omega) (by omega) hA (M (o1 + 1) 0)) hA (by decide) ?_ ?_ ?_
  · unfold F_X2_refusalOf
    rw [h0, show decide (ix (nI 7) < 11) = true from by decide, chk_t, show inb (nI (ix (nI 7))) 11 = true from by decide, chk_t, if_neg (by decide), if_neg (by decide), if_neg (by decide), if_neg (by decide), if_neg (by decide), if_neg (by decide), if_neg (by decide), if_pos (by decide), i0, chk_t]
    exact ob_id _
  · unfold F_X2_carryOut
    rw [h0, show decide (ix (nI 7) < 11) = true from by decide, chk_t, show inb (nI (ix (nI 7))) 11 = true from by decide, chk_t, if_neg (by decide), if_neg (by decide), if_neg (by decide), if_neg (by decide), if_neg (by decide), if_neg (by decide), if_neg (by decide), if_pos (by decide), i0, chk_t]
    rfl
  · unfold F_X10_does
    rw [if_neg (by decide), if_neg (by decide), if_neg (by decide), if_neg (by decide), if_neg (by decide), if_neg (by decide), if_neg (by decide), if_pos (by decide)]
    exact ob2_id _
theorem cmd_8 (hR : RR Mm V) (W : WF c V) (hc : c < 60000) (hn : 2900 ≤ n) (hA : AR M 1 V) (h0 : M o1 0 = nI 8) : CmdR n c V o1 M Mm (F_X10_does n (nI 8) (M (o1 + 1) 0) (M (o1 + 1) 1) (M (o1 + 1) 3) (nI s) Mm) := by
  refine cmd_of (s_support (n := n) hR W (by omega) hA (M (o1 + 1) 0) (M (o1 + 1) 1)) hA (by decide) ?_ ?_ ?_
  · unfold F_X2_refusalOf
    rw [h0, show decide (ix (nI 8) < 11) = true from by decide, chk_t, show inb (nI (ix (nI 8))) 11 = true from by decide, chk_t, if_neg (by decide), if_neg (by decide), if_neg (by decide), if_neg (by decide), if_neg (by decide), if_neg (by decide), if_neg (by decide), if_neg (by decide), if_pos (by decide), i0, chk_t, i1, chk_t]
    exact ob_id _
  · unfold F_X2_carryOut
    rw [h0, show decide (ix (nI 8) < 11) = true from by decide, chk_t, show inb (nI (ix (nI 8))) 11 = true from by decide, chk_t, if_neg (by decide), if_neg (by decide), if_neg (by decide), if_neg (by decide), if_neg (by decide), if_neg (by decide), if_neg (by decide), if_neg (by decide), if_pos (by decide), i0, chk_t, i1, chk_t]
    rfl
  · unfold F_X10_does
    rw [if_neg (by decide), if_neg (by decide), if_neg (by decide), if_neg (by decide), if_neg (by decide), if_neg (by decide), if_neg (by decide), if_neg (by decide), if_pos (by decide)]
    exact ob2_id _
theorem cmd_9 (hR : RR Mm V) (W : WF c V) (hc : c < 60000) (hn : 2900 ≤ n) (hA : AR M 1 V) (h0 : M o1 0 = nI 9) (hs : s ≤ 1) (h2 : M (o1 + 1) 2 = nI s) : CmdR n c V o1 M Mm (F_X10_does n (nI 9) (M (o1 + 1) 0) (M (o1 + 1) 1) (M (o1 + 1) 3) (nI s) Mm) := by
  refine cmd_of (s_croak (n := n) hR W (by omega) hA (M (o1 + 1) 0) (M (o1 + 1) 1) (M (o1 + 1) 3) hs) hA (by decide) ?_ ?_ ?_
  · unfold F_X2_refusalOf
    rw [h0, show decide (ix (nI 9) < 11) = true from by decide, chk_t, show inb (nI (ix (nI 9))) 11 = true from by decide, chk_t, if_neg (by decide), if_neg (by decide), if_neg (by decide), if_neg (by decide), if_neg (by decide), if_neg (by decide), if_neg (by decide), if_neg (by decide), if_neg (by decide), if_pos (by decide), i0, chk_t, i1, chk_t, i3, chk_t]
    exact ob_id _
  · unfold F_X2_carryOut
    rw [h0, show decide (ix (nI 9) < 11) = true from by decide, chk_t, show inb (nI (ix (nI 9))) 11 = true from by decide, chk_t, if_neg (by decide), if_neg (by decide), if_neg (by decide), if_neg (by decide), if_neg (by decide), if_neg (by decide), if_neg (by decide), if_neg (by decide), if_neg (by decide), if_pos (by decide), i0, chk_t, i1, chk_t, i3, chk_t, i2, chk_t]
    rw [show ix (2 : Int32) = 2 from rfl, h2]
    rcases (by omega : s = 0 ∨ s = 1) with q | q <;> subst q <;> rfl
  · unfold F_X10_does
    rw [if_neg (by decide), if_neg (by decide), if_neg (by decide), if_neg (by decide), if_neg (by decide), if_neg (by decide), if_neg (by decide), if_neg (by decide), if_neg (by decide), if_pos (by decide)]
    exact ob2_id _
theorem cmd_10 (hR : RR Mm V) (W : WF c V) (hc : c < 60000) (hn : 2900 ≤ n) (hA : AR M 1 V) (h0 : M o1 0 = nI 10) : CmdR n c V o1 M Mm (F_X10_does n (nI 10) (M (o1 + 1) 0) (M (o1 + 1) 1) (M (o1 + 1) 3) (nI s) Mm) := by
  refine cmd_of (s_decide (n := n) hR W (by omega) hA (M (o1 + 1) 0)) hA (by decide) ?_ ?_ ?_
  · unfold F_X2_refusalOf
    rw [h0, show decide (ix (nI 10) < 11) = true from by decide, chk_t, show inb (nI (ix (nI 10))) 11 = true from by decide, chk_t, if_neg (by decide), if_neg (by decide), if_neg (by decide), if_neg (by decide), if_neg (by decide), if_neg (by decide), if_neg (by decide), if_neg (by decide), if_neg (by decide), if_neg (by decide), i0, chk_t]
    exact ob_id _
  · unfold F_X2_carryOut
    rw [h0, show decide (ix (nI 10) < 11) = true from by decide, chk_t, show inb (nI (ix (nI 10))) 11 = true from by decide, chk_t, if_neg (by decide), if_neg (by decide), if_neg (by decide), if_neg (by decide), if_neg (by decide), if_neg (by decide), if_neg (by decide), if_neg (by decide), if_neg (by decide), if_neg (by decide), i0, chk_t]
    rfl
  · unfold F_X10_does
    rw [if_neg (by decide), if_neg (by decide), if_neg (by decide), if_neg (by decide), if_neg (by decide), if_neg (by decide), if_neg (by decide), if_neg (by decide), if_neg (by decide), if_neg (by decide)]
    exact ob2_id _
theorem cmd_all (hR : RR Mm V) (W : WF c V) (hc : c < 60000) (hn : 2900 ≤ n) (hA : AR M 1 V) {d : Nat} (hd : d < 11) (h0 : M o1 0 = nI d) (hs : d = 9 → s ≤ 1 ∧ M (o1 + 1) 2 = nI s) : CmdR n c V o1 M Mm (F_X10_does n (nI d) (M (o1 + 1) 0) (M (o1 + 1) 1) (M (o1 + 1) 3) (nI s) Mm) := by
  rcases (by omega : d = 0 ∨ d = 1 ∨ d = 2 ∨ d = 3 ∨ d = 4 ∨ d = 5 ∨ d = 6 ∨ d = 7 ∨ d = 8 ∨ d = 9 ∨ d = 10) with q | q | q | q | q | q | q | q | q | q | q <;> subst q
  · exact cmd_0 hR W hc hn hA h0
  · exact cmd_1 hR W hc hn hA h0
  · exact cmd_2 hR W hc hn hA h0
  · exact cmd_3 hR W hc hn hA h0
  · exact cmd_4 hR W hc hn hA h0
  · exact cmd_5 hR W hc hn hA h0
  · exact cmd_6 hR W hc hn hA h0
  · exact cmd_7 hR W hc hn hA h0
  · exact cmd_8 hR W hc hn hA h0
  · exact cmd_9 hR W hc hn hA h0 (hs rfl).1 (hs rfl).2
  · exact cmd_10 hR W hc hn hA h0
end CMD
